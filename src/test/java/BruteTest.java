import java.util.ArrayList;
import java.util.List;
import java.util.Random;

/** HISTORIES counted one by one, on days with few PARTS: what the tree of Model must come to, too. */
public final class BruteTest {
  private static final int COURTS = 40;
  private static int wrong = 0;
  private static int checked = 0;

  private final Model model = new Model();
  private final ParrotCourt court = new ParrotCourt();
  private List<Boolean> heard;
  private final long[] histories = new long[17];

  private void say(String text) {
    for (int i = 0; i < text.length(); i++) {
      court.say(text.charAt(i));
      model.say(text.charAt(i));
    }
  }

  private void due(String what, long got, long want) {
    checked++;
    if (got == want) return;
    wrong++;
    System.out.println(what + " answered " + got + ", counted one by one: " + want);
  }

  /** Every way in which the PARTS from this one on can go. */
  private void go(int part, String said, String[] keeps, int slips) {
    if (part == model.parts.size()) {
      for (int bird = 0; bird < 6; bird++) {
        if (model.testimony[bird] != null && !model.testimony[bird].equals(keeps[bird])) return;
      }
      histories[slips]++;
      return;
    }
    if (!heard.get(part)) {
      go(part + 1, said, keeps, slips);
      return;
    }
    int who = model.parts.get(part)[0], bird = model.parts.get(part)[1];
    String hears = who == 6 ? said : keeps[who];
    String kept = keeps[bird];
    keeps[bird] = hears;
    go(part + 1, said, keeps, slips);
    for (String slip : Model.slipsOf(model.sorts[bird], hears)) {
      keeps[bird] = slip;
      go(part + 1, said, keeps, slips + 1);
    }
    keeps[bird] = kept;
  }

  private void set(Random random) {
    for (int bird = 0; bird < 6; bird++) {
      int v = random.nextInt(5);
      court.sort(bird, v);
      model.sort(bird, v);
    }
    StringBuilder days = new StringBuilder();
    String speakers = "XX";
    for (int part = 0; part < 3; part++) {
      char who = speakers.charAt(random.nextInt(speakers.length()));
      char hears = (char) ('A' + random.nextInt(4));
      if (hears == who) hears = 'F';
      days.append(who).append(hears).append(1 + random.nextInt(9));
      speakers += hears;
    }
    say(days.toString());
    court.days();
    model.days();
    say("abcab".substring(random.nextInt(5)));
    court.bargain();
    model.bargain();
    String[] keeps = model.behindDays();
    for (int bird = 0; bird < 6; bird++) {
      if (keeps[bird] == null || random.nextInt(3) == 0) continue;
      say(keeps[bird]);
      court.testify(bird);
      model.testify(bird);
    }
    heard = model.heard();
  }

  private void compare() {
    List<long[]> all = new ArrayList<>();
    int[] canBe = new int[17];
    for (String saying : Model.SAYINGS) {
      java.util.Arrays.fill(histories, 0);
      go(0, saying, new String[6], 0);
      int cost = 0;
      while (cost < 17 && histories[cost] == 0) cost++;
      all.add(cost == 17 ? null : new long[] {cost, histories[cost]});
      for (int k = cost; k < 17; k++) canBe[k]++;
    }
    long fewest = Model.fewest(all);
    for (int i = 0; i < all.size(); i++) {
      long[] b = all.get(i);
      court.wipe();
      say(Model.SAYINGS.get(i));
      due("cost() of " + Model.SAYINGS.get(i), court.cost(), b == null ? -6 : b[0]);
      due("ways() of " + Model.SAYINGS.get(i), court.ways(), b == null || b[0] != fewest ? 0 : b[1]);
    }
    for (int k = 0; k < 17; k++) due("canBe(" + k + ")", court.canBe(k), canBe[k]);
  }

  public static void main(String[] args) {
    for (int i = 0; i < COURTS; i++) {
      BruteTest test = new BruteTest();
      test.set(new Random(i));
      test.compare();
    }
    System.out.println(checked + " answers counted one by one, " + wrong + " wrong");
    if (wrong != 0) System.exit(1);
  }
}
