/** What tests by hand share: courts that are set up, what they say in texts, and answers compared with those due. */
abstract class Courts {
  static final int UNKNOWN = -1, OUTSIDE = -2, STATE = -3, FULL = -4, NO = -5, NONE = -6;
  static final long GONE = -1000000000000000000L;
  static final int MOST = Integer.MAX_VALUE, LEAST = Integer.MIN_VALUE;
  static final int A = 0, B = 1, C = 2, D = 3, E = 4, F = 5;

  /** What of the document is being checked: it is told with each wrong answer. */
  static String place = "";
  static int checked = 0;
  static int wrong = 0;

  static void due(String what, long got, long want) {
    checked++;
    if (got == want) return;
    wrong++;
    System.out.println(place + ": " + what + " answered " + got + ", due is " + want);
  }

  static void dueText(String what, String got, String want) {
    due(what + " \"" + got + "\", not \"" + want + "\":", got.equals(want) ? 1 : 0, 1);
  }

  static void say(ParrotCourt court, String text) {
    for (int i = 0; i < text.length(); i++) court.say(text.charAt(i));
  }

  static void pad(ParrotCourt court, String text) {
    court.wipe();
    say(court, text);
  }

  /** A court of birds of these sorts (a digit a bird), days and a bargain. */
  static ParrotCourt court(String sorts, String days, String bargain) {
    ParrotCourt court = new ParrotCourt();
    for (int bird = 0; bird < sorts.length(); bird++) court.sort(bird, sorts.charAt(bird) - '0');
    say(court, days);
    if (court.days() < 0) throw new IllegalStateException("days " + days);
    say(court, bargain);
    if (court.bargain() < 0) throw new IllegalStateException("bargain " + bargain);
    return court;
  }

  static ParrotCourt testify(ParrotCourt court, int bird, String saying) {
    say(court, saying);
    court.testify(bird);
    return court;
  }

  static ParrotCourt always(String sorts, String days, String bargain) {
    ParrotCourt court = court(sorts, days, bargain);
    court.rare(1);
    return court;
  }

  static String saysOf(ParrotCourt court, int bird) {
    int words = court.says(bird, -1);
    if (words < 0) return "-";
    StringBuilder text = new StringBuilder();
    for (int i = 0; i < words; i++) text.append((char) court.says(bird, i));
    if (court.says(bird, words) != NONE) text.append("!");
    return text.toString();
  }

  static String yearsOf(ParrotCourt court, int seed, int n, int bird) {
    int words = court.years(seed, n, bird, -1);
    if (words < 0) return "-";
    StringBuilder text = new StringBuilder();
    for (int i = 0; i < words; i++) text.append((char) court.years(seed, n, bird, i));
    if (court.years(seed, n, bird, words) != NONE) text.append("!");
    return text.toString();
  }

  static void dueHeard(String sorts, String days, String want) {
    ParrotCourt court = court(sorts, days, "ab");
    StringBuilder got = new StringBuilder();
    for (int part = 0; part < court.told(1); part++) got.append(court.part(part, 3));
    dueText("heard in " + days + " by sorts " + sorts, got.toString(), want);
  }

  /** FAULT as DAYS (0) or as a SAYING (1) of that text; the pad stays. */
  static void dueFault(int how, String text, int want) {
    ParrotCourt court = new ParrotCourt();
    say(court, text);
    due("fault(" + how + ") of " + text, court.fault(how), want);
    due("told(0)", court.told(0), text.length());
  }

  /** COST and WAYS of that SAYING. */
  static void dueCost(ParrotCourt court, String saying, int cost, long ways) {
    pad(court, saying);
    due("cost() of " + saying, court.cost(), cost);
    due("ways() of " + saying, court.ways(), ways);
    due("told(0)", court.told(0), saying.length());
  }

  static void dueOdds(ParrotCourt court, String saying, long above, long below) {
    pad(court, saying);
    due("odds(0) of " + saying, court.odds(0), above);
    due("odds(1) of " + saying, court.odds(1), below);
    due("told(0)", court.told(0), saying.length());
  }

  static void dueLikely(ParrotCourt court, int fewest, int many, String first) {
    due("likely(0)", court.likely(0), fewest);
    due("likely(1)", court.likely(1), many);
    due("likely(2)", court.likely(2), first.length());
    for (int i = 0; i < 5; i++) {
      due("likely(1" + i + ")", court.likely(10 + i), i < first.length() ? first.charAt(i) : NONE);
    }
  }

  /** All that can be asked without changing anything, in one text. */
  static String all(ParrotCourt court) {
    StringBuilder text = new StringBuilder();
    for (int what = 0; what < 26; what++) text.append(court.told(what)).append(' ');
    for (int part = 0; part < court.told(1); part++) {
      for (int what = 0; what < 4; what++) text.append(court.part(part, what)).append(' ');
    }
    for (int bird = 0; bird < 6; bird++) text.append(saysOf(court, bird)).append(' ');
    text.append(court.fault(0)).append(' ').append(court.fault(1)).append(' ');
    text.append(court.cost()).append(' ').append(court.ways()).append(' ').append(court.odds(1)).append(' ');
    for (int what = 0; what < 15; what++) text.append(court.likely(what)).append(' ');
    for (int k = 0; k < 4; k++) text.append(court.canBe(k)).append(' ').append(court.taught(k)).append(' ');
    text.append(court.few(2)).append(' ').append(yearsOf(court, 7, 9, F)).append(' ').append(court.lost(7, 99, A));
    return text.toString();
  }
}
