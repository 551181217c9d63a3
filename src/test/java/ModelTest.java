import java.util.Random;

/** Random runs of calls, each answer compared with that of the model. */
public final class ModelTest {
  private static final int RUNS = 500;
  private static int wrong = 0;
  private static long calls = 0;

  private final Random random;
  private final int run;
  private final ParrotCourt court = new ParrotCourt();
  private final Model model = new Model();
  private int made = 0;

  private ModelTest(int run) {
    this.run = run;
    this.random = new Random(run);
  }

  private void same(String call, long got, long want) {
    made++;
    calls++;
    if (got == want) return;
    wrong++;
    if (wrong < 40) {
      System.out.println("run " + run + ", call " + made + ": " + call + " answered " + got + ", the model says " + want);
    }
  }

  private int below(int n) {
    return random.nextInt(n);
  }

  /** A number from low to high, now and then one just outside, or far outside. */
  private int about(int low, int high) {
    int dice = below(40);
    if (dice == 0) return low - 1;
    if (dice == 1) return high + 1;
    if (dice == 2) return below(2) == 0 ? Integer.MIN_VALUE : Integer.MAX_VALUE;
    if (dice == 3) return random.nextInt();
    return low + below(high - low + 1);
  }

  private void say(String text) {
    for (int i = 0; i < text.length(); i++) {
      int sign = text.charAt(i);
      same("say(" + sign + ")", court.say(sign), model.say(sign));
    }
  }

  private void wipe() {
    same("wipe()", court.wipe(), model.wipe());
  }

  private String saying(int most) {
    StringBuilder text = new StringBuilder();
    for (int n = below(most + 1); n > 0; n--) text.append((char) ('a' + below(3)));
    return text.toString();
  }

  private String daysText(int parts) {
    StringBuilder text = new StringBuilder();
    char lastSpeaker = 'X', lastHearer = (char) ('A' + below(6));
    for (int p = 0; p < parts; p++) {
      char who = below(8) == 0 ? 'm' : below(4) == 0 || p == 0 ? 'X' : (char) ('A' + below(6));
      if (below(3) == 0) who = lastHearer;
      char hears = (char) ('A' + below(6));
      if (who == lastHearer && lastSpeaker <= 'F' && below(2) == 0) hears = lastSpeaker;
      while (hears == who) hears = (char) ('A' + below(6));
      text.append(who).append(hears);
      if (who != 'm' && below(3) == 0) text.append((char) ('1' + below(9)));
      if (who != 'm') {
        lastSpeaker = who;
        lastHearer = hears;
      }
    }
    return text.toString();
  }

  private void spoil() {
    String signs = "XABCDEFmabc123456789@Gd0MxY!~";
    say("" + signs.charAt(below(signs.length())));
  }

  private void days() {
    wipe();
    say(daysText(below(17)));
    if (below(4) == 0) spoil();
    if (below(6) == 0) say(daysText(1 + below(6)));
    same("fault(0)", court.fault(0), model.fault(0));
    same("fault(1)", court.fault(1), model.fault(1));
    same("days()", court.days(), model.days());
    for (int p = 0; p < model.parts.size() && below(3) > 0; p++) {
      for (int what = 0; what < 4; what++) {
        same("part(" + p + ", " + what + ")", court.part(p, what), model.part(p, what));
      }
    }
  }

  private void sorts() {
    for (int bird = 0; bird < 6; bird++) {
      int v = below(5);
      same("sort(" + bird + ", " + v + ")", court.sort(bird, v), model.sort(bird, v));
    }
  }

  /** What the bird may well say, so that there is often a HISTORY. */
  private void testimony() {
    int bird = below(6);
    wipe();
    String said = model.behindDays()[bird];
    if (said == null && below(4) > 0) return;
    if (said != null && below(4) > 0) {
      if (below(3) == 0) {
        var slips = Model.slipsOf(1 + below(3), said);
        if (!slips.isEmpty()) said = slips.get(below(slips.size()));
      }
      say(said);
    } else {
      say(saying(5));
    }
    same("testify(" + bird + ")", court.testify(bird), model.testify(bird));
  }

  private void askHistories() {
    int k = about(0, 16);
    switch (below(7)) {
      case 0: same("cost()", court.cost(), model.cost()); break;
      case 1: same("ways()", court.ways(), model.ways()); break;
      case 2: same("odds(0)", court.odds(0), model.odds(0)); same("odds(1)", court.odds(1), model.odds(1)); break;
      case 3: same("canBe(" + k + ")", court.canBe(k), model.canBe(k)); break;
      case 4: k = below(3) == 0 ? k : below(4); same("taught(" + k + ")", court.taught(k), model.taught(k)); break;
      case 5: k = about(0, 14); same("likely(" + k + ")", court.likely(k), model.likely(k)); break;
      default: k = about(0, 1); same("odds(" + k + ")", court.odds(k), model.odds(k));
    }
  }

  private void askLikely() {
    for (int what = 0; what < 16; what++) same("likely(" + what + ")", court.likely(what), model.likely(what));
    if (model.likely(0) >= 0) {
      wipe();
      for (int i = 0; i < model.likely(2); i++) say("" + (char) model.likely(10 + i));
      same("cost()", court.cost(), model.cost());
      same("ways()", court.ways(), model.ways());
      same("odds(0)", court.odds(0), model.odds(0));
      same("odds(1)", court.odds(1), model.odds(1));
    }
  }

  /** A whole court that fits together: all that birds say comes of one HISTORY with many SLIPS, but for a word or so. */
  private void coherent() {
    for (int bird = 0; bird < 6; bird++) {
      int v = below(6) == 0 ? below(5) : 1 + below(3);
      same("sort(" + bird + ", " + v + ")", court.sort(bird, v), model.sort(bird, v));
      same("unsay(" + bird + ")", court.unsay(bird), model.unsay(bird));
    }
    wipe();
    say(saying(5));
    same("bargain()", court.bargain(), model.bargain());
    say(slippingDays(2 + below(15)));
    same("days()", court.days(), model.days());
    int told = 1 + below(63);
    String[] said = model.behindDays();
    for (int bird = 0; bird < 6; bird++) {
      if ((told >> bird & 1) == 0 || said[bird] == null) continue;
      say(below(12) == 0 ? saying(5) : said[bird]);
      same("testify(" + bird + ")", court.testify(bird), model.testify(bird));
    }
    for (int k = 0; k < 6; k++) {
      same("canBe(" + k + ")", court.canBe(k), model.canBe(k));
      same("taught(" + k + ")", court.taught(k), model.taught(k));
    }
    askLikely();
    for (int i = 0; i < 6; i++) {
      wipe();
      say(i == 0 ? model.bargain : saying(5));
      same("cost()", court.cost(), model.cost());
      same("ways()", court.ways(), model.ways());
      same("odds(0)", court.odds(0), model.odds(0));
      same("odds(1)", court.odds(1), model.odds(1));
    }
    askTelling();
  }

  /** Most PARTS said by X or by who has heard before, most with a digit. */
  private String slippingDays(int parts) {
    StringBuilder text = new StringBuilder();
    String heard = "X";
    for (int p = 0; p < parts; p++) {
      char who = heard.charAt(below(heard.length()));
      char hears = (char) ('A' + below(6));
      while (hears == who) hears = (char) ('A' + below(6));
      text.append(who).append(hears);
      if (below(3) > 0) text.append((char) ('1' + below(9)));
      heard += hears;
    }
    return text.toString();
  }

  private void askTelling() {
    int n = about(1, 3), birds = about(0, 63);
    if (below(8) == 0) same("few(" + n + ")", court.few(n), model.few(n));
    same("doubt(" + n + ", " + birds + ")", court.doubt(n, birds), model.doubt(n, birds));
  }

  private void askYears() {
    int seed = about(0, 9999), n = below(3) == 0 ? about(1, 400) : about(1, 5);
    int bird = about(0, 5), i = about(-1, 4), v = below(3) > 0 ? 1 + below(4) : about(1, 99);
    if (below(3) == 0) same("rare(" + v + ")", court.rare(v), model.rare(v));
    String behind = "(" + seed + ", " + n + ", " + bird;
    same("years" + behind + ", " + i + ")", court.years(seed, n, bird, i), model.years(seed, n, bird, i));
    same("lost" + behind + ")", court.lost(seed, n, bird), model.lost(seed, n, bird));
  }

  private void askSmall() {
    int a = about(0, 5), b = about(-1, 5), c = about(0, 1), d = about(0, 25);
    switch (below(9)) {
      case 0: same("says(" + a + ", " + b + ")", court.says(a, b), model.says(a, b)); break;
      case 1: same("told(" + d + ")", court.told(d), model.told(d)); break;
      case 2: same("slips(" + b + ", " + d + ")", court.slips(b, d), model.slips(b, d)); break;
      case 3: same("part(" + d + ", " + b + ")", court.part(d, b), model.part(d, b)); break;
      case 4: same("unsay(" + a + ")", court.unsay(a), model.unsay(a)); break;
      case 5: same("sort(" + a + ", " + b + ")", court.sort(a, b), model.sort(a, b)); break;
      case 6: same("image(" + c + ")", court.image(c), model.image(c)); break;
      case 7: same("restore(" + c + ")", court.restore(c), model.restore(c)); break;
      default: same("say(" + d + ")", court.say(d), model.say(d));
    }
  }

  private void padded() {
    wipe();
    say(saying(5));
    if (below(10) == 0) spoil();
    same("slips(1, 0)", court.slips(1, 0), model.slips(1, 0));
    same("fault(1)", court.fault(1), model.fault(1));
    if (below(2) == 0) same("bargain()", court.bargain(), model.bargain());
  }

  private void play() {
    if (run % 3 == 0) coherent();
    sorts();
    padded();
    days();
    while (made < 420) {
      int dice = below(30);
      if (dice == 0) days();
      else if (dice == 22 && made < 200) coherent();
      else if (dice == 1) sorts();
      else if (dice < 5) padded();
      else if (dice < 9) testimony();
      else if (dice < 16) askHistories();
      else if (dice == 16) askLikely();
      else if (dice == 17) askTelling();
      else if (dice < 21) askYears();
      else askSmall();
    }
    for (int what = 0; what < 26; what++) same("told(" + what + ")", court.told(what), model.told(what));
  }

  public static void main(String[] args) {
    for (int run = 1; run <= RUNS; run++) new ModelTest(run).play();
    System.out.println(calls + " calls compared with the model, " + wrong + " wrong");
    if (wrong != 0) System.exit(1);
  }
}
