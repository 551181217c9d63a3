import java.math.BigInteger;
import java.util.ArrayList;
import java.util.Arrays;
import java.util.HashMap;
import java.util.HashSet;
import java.util.LinkedHashSet;
import java.util.List;
import java.util.Map;
import java.util.Set;

/** The document once more, written with texts, lists and maps and without regard to speed: what ModelTest compares with. */
final class Model {
  static final int UNKNOWN = -1, OUTSIDE = -2, STATE = -3, FULL = -4, NO = -5, NONE = -6;
  static final long GONE = -1000000000000000000L;

  String pad = "";
  int[] sorts = new int[6];
  String[] testimony = new String[6];
  List<int[]> parts = new ArrayList<>();
  String bargain = "";
  int rare = 40;
  final Model[] images = new Model[2];

  // ---- sayings and slips

  static final List<String> SAYINGS = allSayings();

  private static List<String> allSayings() {
    List<String> all = new ArrayList<>();
    all.add("");
    for (int i = 0; all.get(i).length() < 5; i++) {
      for (String word : new String[] {"a", "b", "c"}) all.add(all.get(i) + word);
    }
    all.sort((x, y) -> x.length() != y.length() ? x.length() - y.length() : x.compareTo(y));
    return all;
  }

  static final Map<String, List<String>> SLIPS = new HashMap<>();

  static List<String> slipsOf(int sort, String saying) {
    return SLIPS.computeIfAbsent(sort + saying, key -> findSlips(sort, saying));
  }

  private static List<String> findSlips(int sort, String saying) {
    Set<String> found = new LinkedHashSet<>();
    for (int place = 0; place <= saying.length(); place++) {
      String ahead = saying.substring(0, place);
      boolean more = place < saying.length();
      if (sort == 1 && more) found.add(ahead + saying.substring(place + 1));
      for (char word = 'a'; word <= 'c'; word++) {
        if (sort == 2 && more) found.add(ahead + word + saying.substring(place + 1));
        if (sort == 3 && saying.length() < 5) found.add(ahead + word + saying.substring(place));
      }
    }
    found.remove(saying);
    return new ArrayList<>(found);
  }

  // ---- texts

  static boolean isBird(int code) {
    return code >= 0 && code <= 5;
  }

  /** THE FAULT, or NONE, and the PARTS ahead of it. */
  static int parse(String text, List<int[]> into) {
    int at = 0;
    while (at < text.length()) {
      if (into.size() == 16) return at;
      char who = text.charAt(at);
      if (who != 'X' && who != 'm' && !isBird(who - 'A')) return at;
      at++;
      if (at == text.length()) return at;
      int bird = text.charAt(at) - 'A';
      if (!isBird(bird) || who == text.charAt(at)) return at;
      at++;
      int digit = 0;
      if (who != 'm' && at < text.length() && text.charAt(at) >= '1' && text.charAt(at) <= '9') {
        digit = text.charAt(at) - '0';
        at++;
      }
      into.add(new int[] {who == 'X' ? 6 : who == 'm' ? 7 : who - 'A', bird, digit});
    }
    return NONE;
  }

  static int sayingFault(String text) {
    for (int at = 0; at < text.length(); at++) {
      if (at == 5 || "abc".indexOf(text.charAt(at)) < 0) return at;
    }
    return NONE;
  }

  boolean padIsFaulty() {
    return sayingFault(pad) != NONE;
  }

  String takePad() {
    String was = pad;
    pad = "";
    return was;
  }

  static int wordOf(String saying, int i) {
    if (saying == null) return NONE;
    if (i == -1) return saying.length();
    return i >= 0 && i < saying.length() ? saying.charAt(i) : NONE;
  }

  // ---- days

  /** Whether each PART is heard, when nobody slips; keeps is what each bird keeps ahead and behind. */
  List<Boolean> walk(String[] keeps, boolean digits, boolean bargainIsSaid, int[] draw) {
    Set<Integer> silent = new HashSet<>();
    List<Boolean> heard = new ArrayList<>();
    for (int p = 0; p < parts.size(); p++) {
      int who = parts.get(p)[0], bird = parts.get(p)[1], digit = parts.get(p)[2];
      boolean is = false;
      if (who == 7) {
        if (!silent.remove(bird)) silent.add(bird);
      } else if (who == 6) {
        is = bargainIsSaid;
      } else {
        is = !silent.contains(who) && keeps[who] != null;
        if (is && sorts[who] == 4) {
          is = p > 0 && heard.get(p - 1) && parts.get(p - 1)[0] == bird && parts.get(p - 1)[1] == who;
        }
      }
      heard.add(is);
      if (!is) continue;
      String said = who == 6 ? bargain : keeps[who];
      List<String> slips = slipsOf(sorts[bird], said);
      int number = digits ? digit : draw != null ? drawn(draw, sorts[bird], slips.size()) : 0;
      keeps[bird] = number >= 1 && number <= slips.size() ? slips.get(number - 1) : said;
    }
    return heard;
  }

  private int drawn(int[] x, int sort, int many) {
    if (sort < 1 || sort > 3) return 0;
    x[0] = (75 * x[0] + 74) % 65537;
    if (x[0] % rare != 0) return 0;
    x[0] = (75 * x[0] + 74) % 65537;
    return many == 0 ? 0 : 1 + x[0] % many;
  }

  String[] behindDays() {
    String[] keeps = new String[6];
    walk(keeps, true, true, null);
    return keeps;
  }

  List<Boolean> heard() {
    return walk(new String[6], true, true, null);
  }

  // ---- histories: a tree of what was heard from whom

  private final class Node {
    final int sort;
    final List<Node> then = new ArrayList<>();
    final Set<String> mustBe = new HashSet<>();
    final Map<String, long[]> known = new HashMap<>();

    Node(int sort) {
      this.sort = sort;
    }

    /** The fewest SLIPS behind this node, if it keeps that SAYING, and in how many ways; null: none. */
    long[] best(String saying) {
      if (!known.containsKey(saying)) known.put(saying, reckon(saying));
      return known.get(saying);
    }

    private long[] reckon(String saying) {
      for (String must : mustBe) {
        if (!must.equals(saying)) return null;
      }
      long cost = 0, ways = 1;
      for (Node next : then) {
        long least = Long.MAX_VALUE, count = 0;
        List<String> may = new ArrayList<>(slipsOf(next.sort, saying));
        may.add(saying);
        for (String heard : may) {
          long[] b = next.best(heard);
          if (b == null) continue;
          long c = b[0] + (heard.equals(saying) ? 0 : 1);
          if (c < least) {
            least = c;
            count = 0;
          }
          if (c == least) count += b[1];
        }
        if (count == 0) return null;
        cost += least;
        ways *= count;
      }
      return new long[] {cost, ways};
    }
  }

  /** The tree below THE BARGAIN; null: a bird that has heard nothing is told to say something. */
  private Node tree(int without) {
    Node root = new Node(0);
    Node[] now = new Node[6];
    List<Boolean> heard = heard();
    for (int p = 0; p < parts.size(); p++) {
      if (!heard.get(p)) continue;
      Node node = new Node(sorts[parts.get(p)[1]]);
      (parts.get(p)[0] == 6 ? root : now[parts.get(p)[0]]).then.add(node);
      now[parts.get(p)[1]] = node;
    }
    for (int bird = 0; bird < 6; bird++) {
      if (testimony[bird] == null || bird == without) continue;
      if (now[bird] == null) return null;
      now[bird].mustBe.add(testimony[bird]);
    }
    return root;
  }

  long[] best(String saying, int without) {
    Node root = tree(without);
    return root == null ? null : root.best(saying);
  }

  /** Of each BARGAIN its COST and WAYS, or null. */
  List<long[]> allBest(int without) {
    List<long[]> all = new ArrayList<>();
    Node root = tree(without);
    for (String saying : SAYINGS) all.add(root == null ? null : root.best(saying));
    return all;
  }

  static long fewest(List<long[]> all) {
    long least = Long.MAX_VALUE;
    for (long[] b : all) {
      if (b != null) least = Math.min(least, b[0]);
    }
    return least;
  }

  // ---- telling

  /** All that birds can come to say from a BARGAIN with one SLIP at most. */
  List<String[]> outcomes(String said) {
    List<Boolean> heard = heard();
    List<String[]> all = new ArrayList<>();
    for (int slipping = -1; slipping < parts.size(); slipping++) {
      if (slipping >= 0 && !heard.get(slipping)) continue;
      for (int number = slipping < 0 ? 0 : 1; ; number++) {
        String[] keeps = outcome(said, heard, slipping, number);
        if (keeps == null) break;
        all.add(keeps);
        if (slipping < 0) break;
      }
    }
    return all;
  }

  private String[] outcome(String said, List<Boolean> heard, int slipping, int number) {
    String[] keeps = new String[6];
    for (int p = 0; p < parts.size(); p++) {
      if (!heard.get(p)) continue;
      int who = parts.get(p)[0], bird = parts.get(p)[1];
      String hears = who == 6 ? said : keeps[who];
      if (p == slipping) {
        List<String> slips = slipsOf(sorts[bird], hears);
        if (number > slips.size()) return null;
        hears = slips.get(number - 1);
      }
      keeps[bird] = hears;
    }
    return keeps;
  }

  Map<String, List<String[]>> outcomesOf(int n) {
    Map<String, List<String[]>> all = new HashMap<>();
    for (String saying : SAYINGS) {
      if (saying.length() == n) all.put(saying, outcomes(saying));
    }
    return all;
  }

  static int doubted(Map<String, List<String[]>> outcomes, int birds) {
    Map<String, Set<String>> from = new HashMap<>();
    for (String saying : outcomes.keySet()) {
      for (String[] keeps : outcomes.get(saying)) {
        StringBuilder said = new StringBuilder();
        for (int bird = 0; bird < 6; bird++) {
          if ((birds >> bird & 1) == 1) said.append(keeps[bird]).append(';');
        }
        from.computeIfAbsent(said.toString(), key -> new HashSet<>()).add(saying);
      }
    }
    Set<String> doubted = new HashSet<>();
    for (Set<String> sayings : from.values()) {
      if (sayings.size() > 1) doubted.addAll(sayings);
    }
    return doubted.size();
  }

  // ---- the face

  int sort(int bird, int v) {
    if (!isBird(bird)) return UNKNOWN;
    if (v < 0 || v > 4) return OUTSIDE;
    int was = sorts[bird];
    sorts[bird] = v;
    return was;
  }

  int say(int sign) {
    if (sign < 33 || sign > 126) return OUTSIDE;
    if (pad.length() == 48) return FULL;
    pad += (char) sign;
    return pad.length();
  }

  int wipe() {
    return takePad().length();
  }

  int fault(int how) {
    return how == 0 ? parse(pad, new ArrayList<>()) : how == 1 ? sayingFault(pad) : OUTSIDE;
  }

  int days() {
    List<int[]> read = new ArrayList<>();
    if (parse(pad, read) != NONE) return NO;
    parts = read;
    takePad();
    return parts.size();
  }

  int part(int part, int what) {
    if (part < 0 || part >= parts.size()) return UNKNOWN;
    if (what < 0 || what > 3) return OUTSIDE;
    return what < 3 ? parts.get(part)[what] : heard().get(part) ? 1 : 0;
  }

  int slips(int sort, int i) {
    if (sort < 0 || sort > 4) return OUTSIDE;
    if (padIsFaulty()) return NO;
    List<String> slips = slipsOf(sort, pad);
    if (i == 0) return slips.size();
    return i >= 1 && i <= slips.size() ? slips.get(i - 1).length() : NONE;
  }

  int bargain() {
    if (padIsFaulty()) return NO;
    bargain = takePad();
    return bargain.length();
  }

  int says(int bird, int i) {
    return isBird(bird) ? wordOf(behindDays()[bird], i) : UNKNOWN;
  }

  int testify(int bird) {
    if (!isBird(bird)) return UNKNOWN;
    if (padIsFaulty()) return NO;
    testimony[bird] = takePad();
    return testimony[bird].length();
  }

  int unsay(int bird) {
    if (!isBird(bird)) return UNKNOWN;
    int was = testimony[bird] == null ? 0 : 1;
    testimony[bird] = null;
    return was;
  }

  int cost() {
    if (padIsFaulty()) return NO;
    long[] b = best(pad, -1);
    return b == null ? NONE : (int) b[0];
  }

  int likely(int what) {
    if (!(what >= 0 && what <= 2 || what >= 10 && what <= 14)) return OUTSIDE;
    List<long[]> all = allBest(-1);
    long fewest = fewest(all);
    if (fewest == Long.MAX_VALUE) return NONE;
    if (what == 0) return (int) fewest;
    int many = 0;
    String first = null;
    for (int i = 0; i < all.size(); i++) {
      if (all.get(i) == null || all.get(i)[0] != fewest) continue;
      many++;
      if (first == null) first = SAYINGS.get(i);
    }
    return what == 1 ? many : what == 2 ? first.length() : wordOf(first, what - 10);
  }

  long ways() {
    if (padIsFaulty()) return GONE + NO;
    List<long[]> all = allBest(-1);
    long[] b = all.get(SAYINGS.indexOf(pad));
    return b == null || b[0] != fewest(all) ? 0 : b[1];
  }

  long odds(int part) {
    if (part < 0 || part > 1) return GONE + OUTSIDE;
    List<long[]> all = allBest(-1);
    long fewest = fewest(all);
    if (fewest == Long.MAX_VALUE) return GONE + STATE;
    if (padIsFaulty()) return GONE + NO;
    BigInteger sum = BigInteger.ZERO;
    for (long[] b : all) {
      if (b != null && b[0] == fewest) sum = sum.add(BigInteger.valueOf(b[1]));
    }
    BigInteger these = BigInteger.valueOf(ways());
    BigInteger common = these.gcd(sum);
    return (part == 0 ? these : sum).divide(common).longValueExact();
  }

  private int canBeWithout(int without, int k) {
    int many = 0;
    for (long[] b : allBest(without)) {
      if (b != null && b[0] <= k) many++;
    }
    return many;
  }

  int canBe(int k) {
    return k < 0 || k > 16 ? OUTSIDE : canBeWithout(-1, k);
  }

  int taught(int k) {
    if (k < 0 || k > 16) return OUTSIDE;
    if (canBeWithout(-1, k) > 0) return STATE;
    int birds = 0;
    for (int bird = 0; bird < 6; bird++) {
      if (canBeWithout(bird, k) > 0) birds |= 1 << bird;
    }
    return birds;
  }

  int few(int n) {
    if (n < 1 || n > 3) return OUTSIDE;
    Map<String, List<String[]>> outcomes = outcomesOf(n);
    for (int size = 0; size <= 6; size++) {
      for (int birds = 0; birds < 64; birds++) {
        if (Integer.bitCount(birds) == size && doubted(outcomes, birds) == 0) return birds;
      }
    }
    return NONE;
  }

  int doubt(int n, int birds) {
    if (n < 1 || n > 3 || birds < 0 || birds > 63) return OUTSIDE;
    return doubted(outcomesOf(n), birds);
  }

  int rare(int v) {
    if (v < 1 || v > 99) return OUTSIDE;
    int was = rare;
    rare = v;
    return was;
  }

  /** What each bird keeps behind each of n DAYS. */
  private List<String[]> years(int seed, int n) {
    int[] x = {seed};
    String[] keeps = new String[6];
    List<String[]> behind = new ArrayList<>();
    for (int day = 1; day <= n; day++) {
      walk(keeps, false, day == 1, x);
      behind.add(keeps.clone());
    }
    return behind;
  }

  int years(int seed, int n, int bird, int i) {
    if (!isBird(bird)) return UNKNOWN;
    if (seed < 0 || seed > 9999 || n < 1 || n > 400) return OUTSIDE;
    return wordOf(years(seed, n).get(n - 1)[bird], i);
  }

  int lost(int seed, int n, int bird) {
    if (!isBird(bird)) return UNKNOWN;
    if (seed < 0 || seed > 9999 || n < 1 || n > 400) return OUTSIDE;
    List<String[]> behind = years(seed, n);
    for (int day = 1; day <= n; day++) {
      if (!bargain.equals(behind.get(day - 1)[bird])) return day;
    }
    return NONE;
  }

  private void copy(Model other) {
    sorts = other.sorts.clone();
    testimony = other.testimony.clone();
    parts = new ArrayList<>(other.parts);
    bargain = other.bargain;
    rare = other.rare;
  }

  int image(int n) {
    if (n < 0 || n > 1) return OUTSIDE;
    images[n] = new Model();
    images[n].copy(this);
    return 1;
  }

  int restore(int n) {
    if (n < 0 || n > 1) return OUTSIDE;
    if (images[n] == null) return STATE;
    copy(images[n]);
    return 1;
  }

  int told(int what) {
    if (what >= 10 && what <= 15) return sorts[what - 10];
    if (what >= 20 && what <= 25) return testimony[what - 20] == null ? NONE : testimony[what - 20].length();
    switch (what) {
      case 0: return pad.length();
      case 1: return parts.size();
      case 2: return bargain.length();
      case 3: return rare;
      case 4: return bits(testimony);
      case 5: return bits(behindDays());
      default: return OUTSIDE;
    }
  }

  static int bits(String[] sayings) {
    int birds = 0;
    for (int bird = 0; bird < 6; bird++) {
      if (sayings[bird] != null) birds |= 1 << bird;
    }
    return birds;
  }
}
