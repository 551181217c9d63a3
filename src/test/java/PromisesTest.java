/** Each promise of the document by hand: ordinary inputs, the edges that it names, wrong inputs. */
public final class PromisesTest extends Courts {
  // ---- 1 birds, days

  private static void promise1() {
    ParrotCourt court = new ParrotCourt();
    for (int what = 0; what < 26; what++) {
      int want = what == 3 ? 40 : what <= 5 || what >= 10 && what <= 15 ? 0 : what >= 20 ? NONE : OUTSIDE;
      due("told(" + what + ")", court.told(what), want);
    }
    for (int bird = A; bird <= F; bird++) due("says(" + bird + ", -1)", court.says(bird, -1), NONE);
    due("part(0, 0)", court.part(0, 0), UNKNOWN);
    due("wipe()", court.wipe(), 0);
    due("fault(0)", court.fault(0), NONE);
    due("restore(0)", court.restore(0), STATE);
    due("restore(1)", court.restore(1), STATE);
    due("likely(0)", court.likely(0), 0);
    due("likely(1)", court.likely(1), 364);
    due("likely(2)", court.likely(2), 0);
    due("taught(0)", court.taught(0), STATE);
    due("lost(0, 1, 0)", court.lost(0, 1, 0), 1);
    due("UNKNOWN", ParrotCourt.UNKNOWN, UNKNOWN);
    due("OUTSIDE", ParrotCourt.OUTSIDE, OUTSIDE);
    due("STATE", ParrotCourt.STATE, STATE);
    due("FULL", ParrotCourt.FULL, FULL);
    due("NO", ParrotCourt.NO, NO);
    due("NONE", ParrotCourt.NONE, NONE);
    due("GONE", ParrotCourt.GONE, GONE);
  }

  private static void promise2() {
    ParrotCourt court = new ParrotCourt();
    due("sort(0, 4)", court.sort(A, 4), 0);
    due("sort(0, 1)", court.sort(A, 1), 4);
    due("sort(5, 3)", court.sort(F, 3), 0);
    due("sort(6, 0)", court.sort(6, 0), UNKNOWN);
    due("sort(-1, 9)", court.sort(-1, 9), UNKNOWN);
    due("sort(0, 5)", court.sort(A, 5), OUTSIDE);
    due("sort(0, -1)", court.sort(A, -1), OUTSIDE);
    due("sort(0, LEAST)", court.sort(A, LEAST), OUTSIDE);
    due("told(10)", court.told(10), 1);
    due("told(15)", court.told(15), 3);
    ParrotCourt later = court("0", "XA1", "abc");
    due("sort(0, 1)", later.sort(A, 1), 0);
    dueText("says of a new sort", saysOf(later, A), "bc");
    testify(later, A, "a");
    due("canBe(1)", later.canBe(1), 6);
    later.sort(A, 0);
    due("canBe(1) of a new sort", later.canBe(1), 1);
    testify(later, B, "b");
    due("taught(0)", later.taught(0), 2);
    later.sort(B, 4);
    later.lost(0, 1, A);
    due("taught(0) of a new sort", later.taught(0), 2);
  }

  private static void promise3() {
    ParrotCourt court = new ParrotCourt();
    due("say(33)", court.say(33), 1);
    due("say(126)", court.say(126), 2);
    for (int sign : new int[] {32, 127, 0, -1, LEAST, MOST}) due("say(" + sign + ")", court.say(sign), OUTSIDE);
    for (int many = 3; many <= 48; many++) due("say(97)", court.say('a'), many);
    due("say(97)", court.say('a'), FULL);
    due("say(32)", court.say(32), OUTSIDE);
    due("told(0)", court.told(0), 48);
  }

  private static void promise4() {
    ParrotCourt court = new ParrotCourt();
    say(court, "abc");
    due("wipe()", court.wipe(), 3);
    due("wipe()", court.wipe(), 0);
    due("told(0)", court.told(0), 0);
    due("bargain()", court.bargain(), 0);
  }

  private static void promise5() {
    String[] good = {"", "XA", "AB", "FA", "AB1", "AB9", "mF", "mAmA", "XA1BC2mDX", "XA".repeat(16),
        "XA".repeat(16) + "9", "XA1".repeat(16), "mA".repeat(16)};
    for (String text : good) dueFault(0, text, text.equals("XA1BC2mDX") ? 9 : NONE);
    String[] bad = {"1", "G", "x", "a", "M", "@", "XX", "Xm", "XG", "Xa", "X1", "AA", "AX", "Am", "FF", "mX", "mm",
        "mG", "m1", "AB0", "mA3", "AB12", "XA1A1"};
    int[] at = {0, 0, 0, 0, 0, 0, 1, 1, 1, 1, 1, 1, 1, 1, 1, 1, 1, 1, 1, 2, 2, 3, 4};
    for (int i = 0; i < bad.length; i++) dueFault(0, bad[i], at[i]);
    dueFault(0, "X", 1);
    dueFault(0, "m", 1);
    dueFault(0, "A", 1);
    dueFault(0, "XAB", 3);
    dueFault(0, "XA1m", 4);
    dueFault(0, "XA".repeat(16) + "X", 32);
    dueFault(0, "XA".repeat(16) + "mA", 32);
    dueFault(0, "XA".repeat(16) + "1X", 33);
    dueFault(0, "XA".repeat(16) + "11", 33);
    dueFault(0, "mA".repeat(16) + "1", 32);
    dueFault(0, "XA1".repeat(15) + "XAX", 47);
    dueFault(1, "", NONE);
    dueFault(1, "a", NONE);
    dueFault(1, "abcab", NONE);
    dueFault(1, "abcabc", 5);
    dueFault(1, "abcab9", 5);
    dueFault(1, "abd", 2);
    dueFault(1, "ab`", 2);
    dueFault(1, "Abc", 0);
    dueFault(1, "abcdabc", 3);
    ParrotCourt court = new ParrotCourt();
    due("fault(2)", court.fault(2), OUTSIDE);
    due("fault(-1)", court.fault(-1), OUTSIDE);
    due("fault(LEAST)", court.fault(LEAST), OUTSIDE);
  }

  private static void promise6() {
    ParrotCourt court = new ParrotCourt();
    say(court, "XAAB2mC");
    due("days()", court.days(), 3);
    due("told(0)", court.told(0), 0);
    due("told(1)", court.told(1), 3);
    say(court, "XAB");
    due("days() with a fault", court.days(), NO);
    due("told(0)", court.told(0), 3);
    due("told(1)", court.told(1), 3);
    due("part(1, 2)", court.part(1, 2), 2);
    due("fault(0)", court.fault(0), 3);
    due("part(0, 0) behind fault(0)", court.part(0, 0), 6);
    pad(court, "XA".repeat(17));
    due("days() of 17", court.days(), NO);
    pad(court, "XB".repeat(16));
    due("days() of 16", court.days(), 16);
    say(court, "XA".repeat(15) + "XB7");
    due("days() of 16", court.days(), 16);
    due("part(14, 2)", court.part(14, 2), 0);
    due("part(15, 2)", court.part(15, 2), 7);
    due("part(15, 1)", court.part(15, 1), B);
    due("part(16, 1)", court.part(16, 1), UNKNOWN);
    say(court, "XB".repeat(16));
    court.days();
    due("told(5)", court.told(5), 2);
    testify(court, B, "a");
    due("likely(1)", court.likely(1), 1);
    due("days() of none", court.days(), 0);
    due("told(1)", court.told(1), 0);
    due("told(5)", court.told(5), 0);
    due("likely(1) of new days", court.likely(1), NONE);
    due("taught(0)", court.taught(0), 2);
    say(court, "XBXB3");
    due("days()", court.days(), 2);
    due("part(0, 2) of new days", court.part(0, 2), 0);
    due("part(1, 2) of new days", court.part(1, 2), 3);
    due("likely(1) of new days", court.likely(1), 1);
  }

  private static void promise7() {
    ParrotCourt court = court("0", "XA2", "abc");
    say(court, "XA");
    court.days();
    due("part(0, 2) of days without digits, behind others", court.part(0, 2), 0);
    court = court("0", "XF3mBFE", "abc");
    int[][] want = {{6, F, 3, 1}, {7, B, 0, 0}, {F, E, 0, 1}};
    for (int part = 0; part < 3; part++) {
      for (int what = 0; what < 4; what++) due("part(" + part + ", " + what + ")", court.part(part, what), want[part][what]);
    }
    due("part(3, 0)", court.part(3, 0), UNKNOWN);
    due("part(-1, 9)", court.part(-1, 9), UNKNOWN);
    due("part(MOST, 0)", court.part(MOST, 0), UNKNOWN);
    due("part(0, 4)", court.part(0, 4), OUTSIDE);
    due("part(0, -1)", court.part(0, -1), OUTSIDE);
    dueHeard("00", "ABXAABBC", "0111");
    dueHeard("00", "mAXAAB", "010");
    dueHeard("00", "mAXAABmAAB", "01001");
    dueHeard("00", "XAmAmAAB", "1001");
    dueHeard("00", "XAABBA", "111");
    dueHeard("04", "XAABBABABC", "11100");
    dueHeard("04", "XAABBC", "110");
    dueHeard("04", "XAABXCBA", "1110");
    dueHeard("04", "XAABmCBA", "1100");
    dueHeard("04", "XAXBmAABBA", "11000");
    dueHeard("04", "XAABBAABBA", "11111");
    dueHeard("04", "XAABmBABBA", "11010");
    dueHeard("04", "XBBA", "10");
    dueHeard("44", "XAABXBBA", "1010");
    dueHeard("444", "XA".repeat(16), "1111111111111111");
  }

  private static void dueSlips(int sort, String saying, int... lengths) {
    ParrotCourt court = new ParrotCourt();
    say(court, saying);
    due("slips(" + sort + ", 0) of " + saying, court.slips(sort, 0), lengths.length);
    for (int i = 1; i <= lengths.length; i++) due("slips(" + sort + ", " + i + ")", court.slips(sort, i), lengths[i - 1]);
    due("slips(" + sort + ", too many)", court.slips(sort, lengths.length + 1), NONE);
    due("slips(" + sort + ", -1)", court.slips(sort, -1), NONE);
    due("slips(" + sort + ", MOST)", court.slips(sort, MOST), NONE);
    due("told(0)", court.told(0), saying.length());
  }

  private static void dueNumbered(int sort, String saying, String... slips) {
    for (int digit = 1; digit <= 9; digit++) {
      ParrotCourt court = court("" + sort, "XA" + digit, saying);
      dueText("slip " + digit + " of " + saying + " by " + sort, saysOf(court, A), digit <= slips.length ? slips[digit - 1] : saying);
    }
  }

  private static void promise8() {
    dueSlips(0, "abc");
    dueSlips(4, "abc");
    dueSlips(1, "");
    dueSlips(2, "");
    dueSlips(3, "", 1, 1, 1);
    dueSlips(1, "aab", 2, 2);
    dueSlips(1, "aaaaa", 4);
    dueSlips(1, "abcab", 4, 4, 4, 4, 4);
    dueSlips(2, "aab", 3, 3, 3, 3, 3, 3);
    dueSlips(2, "aaaaa", 5, 5, 5, 5, 5, 5, 5, 5, 5, 5);
    dueSlips(3, "aab", 4, 4, 4, 4, 4, 4, 4, 4, 4);
    dueSlips(3, "abca", 5, 5, 5, 5, 5, 5, 5, 5, 5, 5, 5);
    dueSlips(3, "aaaa", 5, 5, 5, 5, 5, 5, 5, 5, 5, 5, 5);
    dueSlips(3, "abcab");
    dueNumbered(1, "aab", "ab", "aa");
    dueNumbered(1, "abcba", "bcba", "acba", "abba", "abca", "abcb");
    dueNumbered(2, "ab", "bb", "cb", "aa", "ac");
    dueNumbered(2, "cab", "aab", "bab", "cbb", "ccb", "caa", "cac");
    dueNumbered(3, "", "a", "b", "c");
    dueNumbered(3, "ab", "aab", "bab", "cab", "abb", "acb", "aba", "abc");
    dueNumbered(3, "bb", "abb", "bbb", "cbb", "bab", "bcb", "bba", "bbc");
    dueNumbered(0, "ab");
    dueNumbered(4, "ab");
    ParrotCourt court = new ParrotCourt();
    due("slips(5, 0)", court.slips(5, 0), OUTSIDE);
    due("slips(-1, 0)", court.slips(-1, 0), OUTSIDE);
    say(court, "abx");
    due("slips(1, 0) with a fault", court.slips(1, 0), NO);
    due("slips(0, 99) with a fault", court.slips(0, 99), NO);
    due("slips(5, 0) with a fault", court.slips(5, 0), OUTSIDE);
    due("told(0)", court.told(0), 3);
  }

  // ---- 2 what birds say

  private static void promise9() {
    ParrotCourt court = new ParrotCourt();
    say(court, "cab");
    due("bargain()", court.bargain(), 3);
    due("told(0)", court.told(0), 0);
    due("told(2)", court.told(2), 3);
    say(court, "abcabc");
    due("bargain() of six", court.bargain(), NO);
    due("told(0)", court.told(0), 6);
    due("told(2)", court.told(2), 3);
    pad(court, "aX");
    due("bargain() with a fault", court.bargain(), NO);
    court.wipe();
    say(court, "XA");
    court.days();
    dueText("says", saysOf(court, A), "cab");
    due("bargain() without words", court.bargain(), 0);
    due("told(2)", court.told(2), 0);
    dueText("says", saysOf(court, A), "");
    say(court, "abcab");
    due("bargain() of five", court.bargain(), 5);
    dueText("says", saysOf(court, A), "abcab");
  }

  private static void promise10() {
    ParrotCourt court = court("0123", "XA1AB2BC4CD3XAEF", "abc");
    dueText("says of A", saysOf(court, A), "abc");
    dueText("says of B", saysOf(court, B), "ac");
    dueText("says of C", saysOf(court, C), "ab");
    dueText("says of D", saysOf(court, D), "cab");
    dueText("says of E", saysOf(court, E), "-");
    dueText("says of F", saysOf(court, F), "-");
    due("says(3, 0)", court.says(D, 0), 'c');
    due("says(3, 3)", court.says(D, 3), NONE);
    due("says(3, -2)", court.says(D, -2), NONE);
    due("says(3, MOST)", court.says(D, MOST), NONE);
    due("says(4, 0)", court.says(E, 0), NONE);
    due("says(6, -1)", court.says(6, -1), UNKNOWN);
    due("says(-1, -1)", court.says(-1, -1), UNKNOWN);
    dueText("kept is forgotten", saysOf(court("01", "XBXAAB1ABXB2", "abc"), B), "ac");
    dueText("no slip but that numbered", saysOf(court("1", "XA9", "abc"), A), "abc");
    dueText("silent ones hear", saysOf(court("01", "mBXB1", "abc"), B), "bc");
  }

  // ---- 3 testimony

  private static void promise11() {
    ParrotCourt court = court("0", "XA", "a");
    say(court, "abcab");
    due("testify(0)", court.testify(A), 5);
    due("told(0)", court.told(0), 0);
    due("told(20)", court.told(20), 5);
    due("told(4)", court.told(4), 1);
    due("testify(5) without words", court.testify(F), 0);
    due("told(25)", court.told(25), 0);
    due("told(4)", court.told(4), 33);
    say(court, "abx");
    due("testify(0) with a fault", court.testify(A), NO);
    due("testify(6) with a fault", court.testify(6), UNKNOWN);
    due("testify(-1)", court.testify(-1), UNKNOWN);
    due("told(0)", court.told(0), 3);
    due("told(20)", court.told(20), 5);
    court.unsay(F);
    due("likely(2)", court.likely(2), 5);
    pad(court, "b");
    due("testify(0) again", court.testify(A), 1);
    due("likely(10)", court.likely(10), 'b');
  }

  private static void promise12() {
    ParrotCourt court = testify(court("00", "XA", ""), A, "a");
    due("unsay(1)", court.unsay(B), 0);
    due("likely(1)", court.likely(1), 1);
    due("unsay(0)", court.unsay(A), 1);
    due("unsay(0)", court.unsay(A), 0);
    due("told(20)", court.told(20), NONE);
    due("told(4)", court.told(4), 0);
    due("likely(1)", court.likely(1), 364);
    due("unsay(6)", court.unsay(6), UNKNOWN);
    due("unsay(-1)", court.unsay(-1), UNKNOWN);
  }

  /** A and B each lose a word of what X says; A says "a", B says "b". */
  private static ParrotCourt twoLosers() {
    return testify(testify(court("11", "XAXB", ""), A, "a"), B, "b");
  }

  /** B loses one word, that A or B may have lost; C loses the other. */
  private static ParrotCourt twoWays() {
    return testify(testify(court("111", "XAABXC", ""), B, "a"), C, "b");
  }

  private static void promise13() {
    ParrotCourt court = testify(court("1", "XA", ""), A, "a");
    dueCost(court, "a", 0, 1);
    dueCost(court, "ab", 1, 0);
    dueCost(court, "aa", 1, 0);
    dueCost(court, "b", NONE, 0);
    dueCost(court, "abc", NONE, 0);
    dueCost(court, "", NONE, 0);
    court = testify(court("22", "XAABBA", ""), A, "aab");
    dueCost(court, "aab", 0, 1);
    dueCost(court, "bbb", 2, 0);
    dueCost(court, "bba", 3, 0);
    dueCost(court, "bbba", NONE, 0);
    dueCost(testify(court("3", "XA1", ""), A, "ab"), "b", 1, 0);
    dueCost(testify(court("3", "XA1", ""), A, "ab"), "ab", 0, 1);
    dueCost(testify(court("3", "XAXA", ""), A, "ab"), "", NONE, 0);
    dueCost(testify(court("0", "XA", ""), B, "ab"), "ab", NONE, 0);
    dueCost(testify(court("0", "XA", ""), B, ""), "", NONE, 0);
    dueCost(testify(court("4", "XA", ""), A, "ab"), "ba", NONE, 0);
    dueCost(testify(court("1111", "XAABBCCD", ""), D, ""), "abca", 4, 0);
    ParrotCourt long16 = testify(court("22", "XAABBAABBAABBAABBAABBAABBAABBAAB", ""), B, "aaaaa");
    dueCost(long16, "bbbbb", 5, 0);
    dueCost(twoLosers(), "ab", 2, 1);
    dueCost(twoLosers(), "ba", 2, 1);
    dueCost(twoLosers(), "a", NONE, 0);
    court = new ParrotCourt();
    dueCost(court, "abcab", 0, 1);
    say(court, "c");
    due("cost() of six", court.cost(), NO);
    due("told(0)", court.told(0), 6);
  }

  private static void promise14() {
    dueLikely(new ParrotCourt(), 0, 364, "");
    dueLikely(testify(court("1", "XA", ""), A, "a"), 0, 1, "a");
    dueLikely(twoLosers(), 2, 2, "ab");
    dueLikely(testify(court("0", "XA", ""), A, "abcab"), 0, 1, "abcab");
    dueLikely(testify(testify(court("22", "XAXB", ""), A, "ca"), B, "cc"), 1, 2, "ca");
    dueLikely(testify(testify(court("33", "XAXB", ""), A, "c"), B, ""), 1, 1, "");
    ParrotCourt none = testify(new ParrotCourt(), A, "a");
    for (int what = 0; what < 15; what++) {
      due("likely(" + what + ")", none.likely(what), what > 2 && what < 10 ? OUTSIDE : NONE);
    }
    for (int what : new int[] {-1, 3, 9, 15, LEAST, MOST}) {
      due("likely(" + what + ")", new ParrotCourt().likely(what), OUTSIDE);
      due("likely(" + what + ")", none.likely(what), OUTSIDE);
    }
  }

  /** THE BARGAIN was "a", and B and F have each heard of one SLIP, that came in one of two places. */
  private static ParrotCourt twoBranches() {
    return testify(testify(testify(court("330033", "XAABXCXEEF", ""), B, "aa"), C, "a"), F, "ab");
  }

  private static void promise15() {
    dueCost(twoWays(), "ab", 2, 2);
    dueCost(twoWays(), "ba", 2, 2);
    dueCost(twoWays(), "abc", NONE, 0);
    // what D hears, and what A hears first, is told by nobody: it slips in no HISTORY of fewest SLIPS
    dueCost(testify(testify(court("11010", "XAXAXBXDAE", ""), A, "a"), B, "b"), "ab", 2, 1);
    // one SLIP that both hear of, and three places where it may have come
    dueCost(testify(testify(court("2222", "XAABBCXD", ""), C, "b"), D, "a"), "a", 1, 3);
    dueCost(testify(testify(court("2222", "XAABBCXD", ""), C, "b"), D, "a"), "b", 1, 1);
    ParrotCourt court = twoBranches();
    say(court, "a");
    due("ways() as the first question", court.ways(), 4);
    court.unsay(B);
    due("ways() without the testimony of B", court.ways(), 2);
    court = new ParrotCourt();
    say(court, "abd");
    due("ways() with a fault", court.ways(), GONE - 5);
    due("told(0)", court.told(0), 3);
  }

  private static void promise16() {
    dueOdds(new ParrotCourt(), "abc", 1, 364);
    dueOdds(twoLosers(), "ab", 1, 2);
    dueOdds(twoWays(), "ba", 1, 2);
    dueOdds(twoLosers(), "b", 0, 1);
    dueOdds(testify(testify(court("2222", "XAABBCXD", ""), C, "b"), D, "a"), "a", 3, 4);
    dueOdds(testify(testify(court("2222", "XAABBCXD", ""), C, "b"), D, "a"), "b", 1, 4);
    dueOdds(testify(testify(court("2222", "XAABBCXD", ""), C, "b"), D, "a"), "c", 0, 1);
    ParrotCourt court = twoBranches();
    dueOdds(court, "a", 1, 1);
    court.unsay(B);
    dueOdds(court, "a", 1, 1);
    court = new ParrotCourt();
    due("odds(2)", court.odds(2), GONE - 2);
    due("odds(-1)", court.odds(-1), GONE - 2);
    say(court, "x");
    due("odds(0) with a fault", court.odds(0), GONE - 5);
    due("odds(1) with a fault", court.odds(1), GONE - 5);
    due("odds(2) with a fault", court.odds(2), GONE - 2);
    court.wipe();
    testify(court, A, "a");
    due("odds(1) without a history", court.odds(1), GONE - 3);
    say(court, "x");
    due("odds(0) without a history, with a fault", court.odds(0), GONE - 3);
    due("odds(2) without a history, with a fault", court.odds(2), GONE - 2);
  }

  private static void promise17() {
    ParrotCourt court = testify(court("1", "XA", ""), A, "a");
    due("canBe(0)", court.canBe(0), 1);
    due("canBe(1)", court.canBe(1), 6);
    due("canBe(16)", court.canBe(16), 6);
    due("canBe(17)", court.canBe(17), OUTSIDE);
    due("canBe(-1)", court.canBe(-1), OUTSIDE);
    due("canBe(LEAST)", court.canBe(LEAST), OUTSIDE);
    court = testify(court("2", "XA", ""), A, "ab");
    due("canBe(0)", court.canBe(0), 1);
    due("canBe(1)", court.canBe(1), 5);
    court = testify(court("22", "XAAB", ""), B, "ab");
    due("canBe(1)", court.canBe(1), 5);
    due("canBe(2)", court.canBe(2), 9);
    due("canBe(1)", twoLosers().canBe(1), 0);
    due("canBe(2)", twoLosers().canBe(2), 2);
    due("canBe(16)", testify(new ParrotCourt(), A, "a").canBe(16), 0);
    due("canBe(0)", new ParrotCourt().canBe(0), 364);
  }

  private static void promise18() {
    due("taught(0)", twoLosers().taught(0), 3);
    due("taught(1)", twoLosers().taught(1), 3);
    due("taught(2)", twoLosers().taught(2), STATE);
    // A and B echo "a"; C, that has heard nothing, says something all the same
    ParrotCourt court = testify(testify(testify(court("000", "XAAB", ""), A, "a"), B, "a"), C, "b");
    due("taught(0)", court.taught(0), 4);
    due("taught(16)", court.taught(16), 4);
    testify(court, B, "b");
    due("taught(16) of two that do not fit", court.taught(16), 0);
    court.unsay(C);
    due("taught(0)", court.taught(0), 3);
    due("told(4)", court.told(4), 3);
    // by two slips A may have come from "bb", by one it must have been taught; so the others, but not D
    court = testify(testify(court("22", "XAABXC", ""), B, "aa"), C, "bb");
    due("taught(0)", court.taught(0), 6);
    due("taught(1)", court.taught(1), 6);
    due("taught(2)", court.taught(2), STATE);
    // days without X, asked for in between, change nothing
    court = testify(testify(court("00", "XAXB", ""), A, "a"), B, "b");
    due("likely(0)", court.likely(0), NONE);
    due("years(0, 2, 0, -1)", court.years(0, 2, A, -1), 0);
    due("taught(0) behind years", court.taught(0), 3);
    due("taught(17)", court.taught(17), OUTSIDE);
    due("taught(-1)", court.taught(-1), OUTSIDE);
    due("taught(17)", new ParrotCourt().taught(17), OUTSIDE);
    due("taught(0)", new ParrotCourt().taught(0), STATE);
  }

  // ---- 4 telling, draws

  private static void dueFew(String sorts, String days, int want) {
    ParrotCourt court = court(sorts, days, "abc");
    for (int n = 1; n <= 3; n++) due("few(" + n + ") of " + days + " by " + sorts, court.few(n), want);
  }

  private static void promise19() {
    dueFew("0", "XA", 1);
    dueFew("000", "XAABXC", 1);
    dueFew("200", "XAABXC", 4);
    dueFew("11", "XAXB", 3);
    dueFew("33", "XAXB", 3);
    dueFew("13", "XAXB", 3);
    dueFew("12", "XAXB", 3);
    dueFew("22", "XAXB", NONE);
    dueFew("222", "XAXBXC", 7);
    dueFew("2222", "XAXBXCXD", 7);
    dueFew("2122", "XAXBXCXD", 3);
    dueFew("100", "XAABAC", NONE);
    dueFew("1000", "XAABACmDXD", 8);
    dueFew("1", "mAXA", NONE);
    dueFew("0", "", NONE);
    dueFew("20", "XAABXB", 2);
    dueFew("000004", "XAAFFA", 1);
    ParrotCourt court = testify(court("11", "XAXB", ""), A, "abc");
    due("few(2) whatever is told", court.few(2), 3);
    due("few(0)", court.few(0), OUTSIDE);
    due("few(4)", court.few(4), OUTSIDE);
    due("few(MOST)", court.few(MOST), OUTSIDE);
  }

  private static void promise20() {
    ParrotCourt court = court("22200", "XAXBXCXD", "abc");
    int[] many = {3, 9, 27};
    for (int n = 1; n <= 3; n++) {
      for (int birds : new int[] {0, 1, 2, 3, 4, 5, 6, 16, 32, 48, 50}) {
        due("doubt(" + n + ", " + birds + ")", court.doubt(n, birds), many[n - 1]);
      }
      for (int birds : new int[] {7, 8, 9, 55, 63}) due("doubt(" + n + ", " + birds + ")", court.doubt(n, birds), 0);
    }
    court = court("0222", "XAABACXD", "abc");
    due("doubt(3, 6)", court.doubt(3, 6), 27);
    due("doubt(3, 14)", court.doubt(3, 14), 0);
    court = court("2022", "XAABACXD", "abc");
    due("doubt(3, 3)", court.doubt(3, 3), 27);
    due("doubt(3, 11)", court.doubt(3, 11), 27);
    due("doubt(3, 15)", court.doubt(3, 15), 27);
    court = court("1011", "XAABACXD", "abc");
    due("doubt(2, 6)", court.doubt(2, 6), 9);
    due("doubt(2, 10)", court.doubt(2, 10), 0);
    court.sort(A, 0);
    due("doubt(2, 6)", court.doubt(2, 6), 0);
    // C keeps nothing to say to B, who has still what it heard from A
    due("doubt(1, 2)", court("200", "XAABCB", "abc").doubt(1, 2), 3);
    // what C forgot was never heard by A
    due("doubt(1, 1)", court("002", "XAXCXC", "abc").doubt(1, 1), 0);
    due("doubt(1, 64)", court.doubt(1, 64), OUTSIDE);
    due("doubt(1, -1)", court.doubt(1, -1), OUTSIDE);
    due("doubt(0, 1)", court.doubt(0, 1), OUTSIDE);
    due("doubt(4, 1)", court.doubt(4, 1), OUTSIDE);
  }

  private static void promise21() {
    ParrotCourt court = court("1", "XA", "abc");
    due("rare(1)", court.rare(1), 40);
    dueText("years", yearsOf(court, 0, 1, A), "ab");
    due("rare(99)", court.rare(99), 1);
    dueText("years", yearsOf(court, 0, 1, A), "abc");
    for (int v : new int[] {0, 100, -1, LEAST, MOST}) due("rare(" + v + ")", court.rare(v), OUTSIDE);
    due("told(3)", court.told(3), 99);
    due("rare(40)", court.rare(40), 99);
  }

  private static void promise22() {
    // seed 0: 74, 5624, 28652, 51790; seed 1752: 400, 30074
    dueText("one draw", yearsOf(always("1", "XA", "abc"), 0, 1, A), "ab");
    dueText("the next draw", yearsOf(always("11", "XAAB", "abc"), 0, 1, B), "b");
    dueText("digits do not matter", yearsOf(always("1", "XA1", "abc"), 0, 1, A), "ab");
    dueText("sort 0 draws not", yearsOf(always("01", "XAXB", "abc"), 0, 1, B), "ab");
    dueText("sort 4 draws not", yearsOf(always("41", "XAXB", "abc"), 0, 1, B), "ab");
    dueText("what is not heard draws not", yearsOf(always("11", "CAXB", "abc"), 0, 1, B), "ab");
    dueText("no slips, but two draws", yearsOf(always("13", "XAXB", ""), 0, 1, B), "b");
    dueText("by 40", yearsOf(court("1", "XA", "abc"), 1752, 1, A), "ab");
    dueText("by 40, none", yearsOf(court("1", "XA", "abc"), 1751, 1, A), "abc");
    ParrotCourt court = court("1", "XA", "abc");
    court.rare(7);
    dueText("by 7, none", yearsOf(court, 1752, 1, A), "abc");
    court = always("01", "XAABBA", "abc");
    int[] words = {2, 1, 0, 0};
    for (int n = 1; n <= 4; n++) due("years(9, " + n + ", 0, -1)", court.years(9, n, A, -1), words[n - 1]);
    // silence is over each night: A is silent by the time it would speak on every day
    dueText("silence by day", yearsOf(court("00", "XAmAAB", "abc"), 0, 2, B), "-");
    dueText("speech by day", yearsOf(court("00", "ABmAXA", "abc"), 0, 1, B), "-");
    dueText("speech by day", yearsOf(court("00", "ABmAXA", "abc"), 0, 2, B), "abc");
    dueText("kept from day to day", yearsOf(court("000", "BCABXA", "abc"), 0, 2, C), "-");
    dueText("kept from day to day", yearsOf(court("000", "BCABXA", "abc"), 0, 3, C), "abc");
    // X is heard on the first day alone: on the second, A keeps what B has made of it
    dueText("X once", yearsOf(always("01", "XAABBA", "abc"), 0, 1, A).length() + "", "2");
    dueText("X once", yearsOf(always("01", "BAXAAB", "abc"), 0, 1, A), "abc");
    dueText("X once", yearsOf(always("01", "BAXAAB", "abc"), 0, 2, A).length() + "", "2");
    // on the second day A speaks at once, and B answers: two slips by then
    dueText("answers by day", yearsOf(always("14", "ABBAXA", "abc"), 0, 2, A), "b");
    // no PART stands ahead of the first one of a day
    dueText("answers by day", yearsOf(always("14", "BAXAAB", "abc"), 0, 2, A), "ab");
    due("years(9999, 400, 0, -1)", court.years(9999, 400, A, -1), 0);
    court = court("0", "XA", "cba");
    due("years(0, 1, 0, 0)", court.years(0, 1, A, 0), 'c');
    due("years(0, 1, 0, 2)", court.years(0, 1, A, 2), 'a');
    due("years(0, 1, 0, 3)", court.years(0, 1, A, 3), NONE);
    due("years(0, 1, 1, -1)", court.years(0, 1, B, -1), NONE);
    due("years(0, 1, 6, -1)", court.years(0, 1, 6, -1), UNKNOWN);
    due("years(-1, 0, -1, -1)", court.years(-1, 0, -1, -1), UNKNOWN);
    due("years(-1, 1, 0, -1)", court.years(-1, 1, A, -1), OUTSIDE);
    due("years(10000, 1, 0, -1)", court.years(10000, 1, A, -1), OUTSIDE);
    due("years(0, 0, 0, -1)", court.years(0, 0, A, -1), OUTSIDE);
    due("years(0, 401, 0, -1)", court.years(0, 401, A, -1), OUTSIDE);
    due("years(0, MOST, 0, -1)", court.years(0, MOST, A, -1), OUTSIDE);
    dueText("says is as it was", saysOf(court, A), "cba");
  }

  private static void promise23() {
    ParrotCourt court = always("001", "CBXBXAAC", "abc");
    due("lost(0, 1, 1)", court.lost(0, 1, B), NONE);
    due("lost(0, 2, 1)", court.lost(0, 2, B), 2);
    due("lost(0, 400, 1)", court.lost(0, 400, B), 2);
    due("lost(0, 400, 0)", court.lost(0, 400, A), NONE);
    due("lost(0, 1, 2)", court.lost(0, 1, C), 1);
    due("lost(0, 1, 5)", court.lost(0, 1, F), 1);
    due("lost(0, 400, 6)", court.lost(0, 400, 6), UNKNOWN);
    due("lost(-1, 0, -1)", court.lost(-1, 0, -1), UNKNOWN);
    due("lost(-1, 1, 0)", court.lost(-1, 1, A), OUTSIDE);
    due("lost(10000, 1, 0)", court.lost(10000, 1, A), OUTSIDE);
    due("lost(0, 0, 0)", court.lost(0, 0, A), OUTSIDE);
    due("lost(0, 401, 0)", court.lost(0, 401, A), OUTSIDE);
    due("lost(9999, 400, 0)", court.lost(9999, 400, A), NONE);
    due("lost(0, 400, 0) of none", always("1", "XA", "").lost(0, 400, A), NONE);
    // a bird that has lost it may have it again: B hears A on each day
    court = court("01", "XAAB", "abc");
    due("lost by 40", court.lost(1752, 400, B), 1);
    int first = 0;
    for (int day = 1; day <= 400 && first == 0; day++) {
      if (!yearsOf(court, 1, day, B).equals("abc")) first = day;
    }
    due("lost(1, 400, 1)", court.lost(1, 400, B), first == 0 ? NONE : first);
    due("lost ahead of it", first > 1 ? court.lost(1, first - 1, B) : NONE, NONE);
  }

  private static void promise24() {
    ParrotCourt court = new ParrotCourt();
    due("image(0)", court.image(0), 1);
    due("image(1)", court.image(1), 1);
    due("image(2)", court.image(2), OUTSIDE);
    due("image(-1)", court.image(-1), OUTSIDE);
    due("image(LEAST)", court.image(LEAST), OUTSIDE);
    due("image(0) again", court.image(0), 1);
  }

  private static void promise25() {
    ParrotCourt court = testify(testify(court("012301", "XAAB1BC2CDmEDF3", "abca"), B, "abc"), F, "aab");
    court.rare(7);
    String was = all(court);
    court.image(1);
    due("restore(0)", court.restore(0), STATE);
    due("restore(2)", court.restore(2), OUTSIDE);
    due("restore(-1)", court.restore(-1), OUTSIDE);
    for (int bird = A; bird <= F; bird++) court.sort(bird, 3);
    testify(testify(court, A, "a"), B, "bb");
    court.unsay(F);
    say(court, "XFFE");
    court.days();
    say(court, "cc");
    court.bargain();
    court.rare(9);
    String then = all(court);
    court.image(0);
    due("restore(1)", court.restore(1), 1);
    dueText("restored", all(court), was);
    due("restore(0)", court.restore(0), 1);
    dueText("restored", all(court), then);
    say(court, "ab");
    due("restore(1)", court.restore(1), 1);
    due("told(0): the pad stays", court.told(0), 2);
    court.wipe();
    court.rare(50);
    due("restore(1) again", court.restore(1), 1);
    dueText("restored again", all(court), was);
    court = court("0", "XA", "a");
    court.image(0);
    testify(court, A, "ab");
    due("likely(1)", court.likely(1), 1);
    court.restore(0);
    due("likely(1) behind restore", court.likely(1), 364);
  }

  private static void promise26() {
    ParrotCourt court = testify(testify(court("012341", "XAAB1XEEC", "abca"), B, "abc"), F, "");
    say(court, "x1");
    int[] want = {2, 4, 4, 40, 34, 19};
    for (int what = 0; what < 6; what++) due("told(" + what + ")", court.told(what), want[what]);
    int[] sorts = {0, 1, 2, 3, 4, 1};
    for (int bird = A; bird <= F; bird++) due("told(1" + bird + ")", court.told(10 + bird), sorts[bird]);
    int[] words = {NONE, 3, NONE, NONE, NONE, 0};
    for (int bird = A; bird <= F; bird++) due("told(2" + bird + ")", court.told(20 + bird), words[bird]);
    for (int what : new int[] {-1, 6, 9, 16, 19, 26, LEAST, LEAST + 10, LEAST + 25, MOST}) {
      due("told(" + what + ")", court.told(what), OUTSIDE);
    }
  }

  /** Calls that are refused change nothing, and neither do those that only tell. */
  private static void refusedCalls() {
    ParrotCourt court = testify(testify(court("012301", "XAAB1BC2CDmEDF3", "abca"), B, "abc"), F, "aab");
    say(court, "abx");
    String was = all(court);
    court.sort(6, 1); court.sort(0, 5); court.say(32); court.fault(2); court.days(); court.part(9, 9);
    court.slips(1, 1); court.slips(9, 1); court.bargain(); court.says(7, 0); court.testify(1); court.testify(9);
    court.unsay(9); court.cost(); court.likely(5); court.ways(); court.odds(0); court.odds(7); court.canBe(99);
    court.taught(99); court.few(9); court.doubt(1, 99); court.rare(0); court.years(-1, 1, 1, 1); court.lost(1, 0, 1);
    court.image(5); court.restore(0); court.restore(5); court.told(99);
    dueText("all behind refused calls", all(court), was);
    court.wipe();
    say(court, "ab");
    was = all(court);
    court.fault(0); court.slips(3, 2); court.cost(); court.likely(1); court.ways(); court.odds(1); court.canBe(1);
    court.taught(1); court.few(2); court.doubt(2, 5); court.years(5, 50, 5, 0); court.lost(5, 50, 5); court.image(0);
    dueText("all behind calls that tell", all(court), was);
  }

  public static void main(String[] args) {
    place = "promise 1"; promise1();
    place = "promise 2"; promise2();
    place = "promise 3"; promise3();
    place = "promise 4"; promise4();
    place = "promise 5"; promise5();
    place = "promise 6"; promise6();
    place = "promise 7"; promise7();
    place = "promise 8"; promise8();
    place = "promise 9"; promise9();
    place = "promise 10"; promise10();
    place = "promise 11"; promise11();
    place = "promise 12"; promise12();
    place = "promise 13"; promise13();
    place = "promise 14"; promise14();
    place = "promise 15"; promise15();
    place = "promise 16"; promise16();
    place = "promise 17"; promise17();
    place = "promise 18"; promise18();
    place = "promise 19"; promise19();
    place = "promise 20"; promise20();
    place = "promise 21"; promise21();
    place = "promise 22"; promise22();
    place = "promise 23"; promise23();
    place = "promise 24"; promise24();
    place = "promise 25"; promise25();
    place = "promise 26"; promise26();
    place = "refused calls"; refusedCalls();
    System.out.println(checked + " answers checked promise by promise, " + wrong + " wrong");
    if (wrong != 0) System.exit(1);
  }
}
