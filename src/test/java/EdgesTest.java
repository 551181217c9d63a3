import java.io.IOException;
import java.nio.file.Files;
import java.nio.file.Path;
import java.util.Arrays;
import java.util.HashSet;
import java.util.Set;
import java.util.function.ToLongFunction;

/**
 * Each sentence of the document that names an edge, in its order: what stands on the edge, and what just beyond.
 * A sentence is told in the document's own words; one that does not stand there any more is told, so that a changed
 * document is seen.
 */
public final class EdgesTest extends Courts {
  private static String document = null;
  private static final Set<String> sentences = new HashSet<>();

  private static void sentence(String words) {
    place = "\"" + words + "\"";
    sentences.add(words);
    if (document != null && !document.contains(words)) System.out.println("the document has no more " + place);
  }

  private static void dueSays(String sorts, String days, String bargain, int bird, String want) {
    dueText("says of " + days + " by sorts " + sorts, saysOf(court(sorts, days, bargain), bird), want);
  }

  private static String slipOf(int sort, String saying, int number) {
    return saysOf(court("" + sort, "XA" + number, saying), A);
  }

  private static void dueMany(int sort, String saying, int many) {
    ParrotCourt court = new ParrotCourt();
    say(court, saying);
    due("slips(" + sort + ", 0) of " + saying, court.slips(sort, 0), many);
    if (many > 0) due("slips(" + sort + ", 1) is there", court.slips(sort, 1) == NONE ? 0 : 1, 1);
    if (many > 0) due("the last slip is there", court.slips(sort, many) == NONE ? 0 : 1, 1);
    due("slips(" + sort + ", one too many)", court.slips(sort, many + 1), NONE);
  }

  // ---- refusals

  private static ParrotCourt noHistory(String pad) {
    ParrotCourt court = testify(new ParrotCourt(), A, "a");
    say(court, pad);
    return court;
  }

  private static void refusalsInOrder() {
    sentence("Calls that are refused answer, the first of these that fits: UNKNOWN -1 (there is no such BIRD, PART), "
        + "OUTSIDE -2 (another number is not as told), STATE -3 (as told), NO -5 (as told), FULL -4.");
    ParrotCourt fresh = new ParrotCourt();
    due("sort(6, 5)", fresh.sort(6, 5), UNKNOWN);
    due("part(0, 4) without parts", fresh.part(0, 4), UNKNOWN);
    due("years(-1, 401, 6, 0)", fresh.years(-1, 401, 6, 0), UNKNOWN);
    due("lost(-1, 401, 6)", fresh.lost(-1, 401, 6), UNKNOWN);
    due("odds(2) that has histories", fresh.odds(2), OUTSIDE + GONE);
    due("taught(17) where some can be", fresh.taught(17), OUTSIDE);
    due("restore(2) where none is kept", fresh.restore(2), OUTSIDE);
    due("likely(3) without a history", noHistory("").likely(3), OUTSIDE);
    due("odds(2) without a history, with a fault", noHistory("x").odds(2), OUTSIDE + GONE);
    due("odds(0) without a history, with a fault", noHistory("x").odds(0), STATE + GONE);
    due("odds(1) without a history, with a fault", noHistory("x").odds(1), STATE + GONE);
    say(fresh, "x".repeat(48));
    due("testify(6) with a fault", fresh.testify(6), UNKNOWN);
    due("slips(5, 0) with a fault", fresh.slips(5, 0), OUTSIDE);
    due("say(32) on a full pad", fresh.say(32), OUTSIDE);
    due("say(127) on a full pad", fresh.say(127), OUTSIDE);
    due("say(33) on a full pad", fresh.say(33), FULL);
  }

  /** Much is set in it, and an image that is quite unlike it is kept. */
  private static ParrotCourt rich(String pad) {
    ParrotCourt court = testify(testify(court("31204", "XBBCXDDE2mC", "cb"), C, "cb"), D, "bbc");
    court.rare(3);
    court.image(0);
    String sorts = "0123012";
    for (int bird = A; bird <= F; bird++) court.sort(bird, sorts.charAt(bird) - '0');
    pad(court, "XAAB1BC2CDmEDF3");
    court.days();
    testify(testify(testify(court, B, "abc"), D, "abca"), F, "aab");
    say(court, "abca");
    court.bargain();
    court.unsay(C);
    court.unsay(D);
    court.rare(7);
    say(court, pad);
    return court;
  }

  /** The call is refused so, and nothing of the court has changed by it, nor of the image that it keeps. */
  private static void dueRefused(String name, String pad, ToLongFunction<ParrotCourt> call, long want) {
    ParrotCourt court = rich(pad), other = rich(pad);
    due(name, call.applyAsLong(court), want);
    dueText("all behind " + name, all(court), all(other));
    due("restore(1) behind " + name, court.restore(1), STATE);
    due("restore(0) behind " + name, court.restore(0), other.restore(0));
    dueText("the image behind " + name, all(court), all(other));
  }

  private static void refusalsChangeNothing() {
    sentence("They change nothing.");
    String good = "ab", full = "a".repeat(48);
    dueRefused("sort(6, 1)", good, c -> c.sort(6, 1), UNKNOWN);
    dueRefused("sort(-1, 1)", good, c -> c.sort(-1, 1), UNKNOWN);
    dueRefused("sort(1, 5)", good, c -> c.sort(1, 5), OUTSIDE);
    dueRefused("sort(1, -1)", good, c -> c.sort(1, -1), OUTSIDE);
    dueRefused("say(32)", good, c -> c.say(32), OUTSIDE);
    dueRefused("say(127)", good, c -> c.say(127), OUTSIDE);
    dueRefused("say(97)", full, c -> c.say(97), FULL);
    dueRefused("fault(2)", good, c -> c.fault(2), OUTSIDE);
    dueRefused("days()", "XAB", c -> c.days(), NO);
    dueRefused("days()", "XA1XBX", c -> c.days(), NO);
    dueRefused("days()", "XA".repeat(17), c -> c.days(), NO);
    dueRefused("part(6, 3)", good, c -> c.part(6, 3), UNKNOWN);
    dueRefused("part(0, 4)", good, c -> c.part(0, 4), OUTSIDE);
    dueRefused("slips(5, 1)", good, c -> c.slips(5, 1), OUTSIDE);
    dueRefused("slips(1, 1)", "abx", c -> c.slips(1, 1), NO);
    dueRefused("bargain()", "abcabc", c -> c.bargain(), NO);
    dueRefused("bargain()", "x", c -> c.bargain(), NO);
    dueRefused("says(6, 0)", good, c -> c.says(6, 0), UNKNOWN);
    dueRefused("testify(6)", good, c -> c.testify(6), UNKNOWN);
    dueRefused("testify(-1)", good, c -> c.testify(-1), UNKNOWN);
    dueRefused("testify(1)", "abx", c -> c.testify(1), NO);
    dueRefused("testify(3)", "abcabc", c -> c.testify(3), NO);
    dueRefused("unsay(6)", good, c -> c.unsay(6), UNKNOWN);
    dueRefused("unsay(-1)", good, c -> c.unsay(-1), UNKNOWN);
    dueRefused("cost()", "abx", c -> c.cost(), NO);
    dueRefused("likely(3)", good, c -> c.likely(3), OUTSIDE);
    dueRefused("ways()", "abx", c -> c.ways(), NO + GONE);
    dueRefused("odds(2)", good, c -> c.odds(2), OUTSIDE + GONE);
    dueRefused("odds(0)", "abx", c -> c.odds(0), NO + GONE);
    dueRefused("canBe(17)", good, c -> c.canBe(17), OUTSIDE);
    dueRefused("taught(17)", good, c -> c.taught(17), OUTSIDE);
    dueRefused("taught(16)", good, c -> c.taught(16), STATE);
    dueRefused("few(0)", good, c -> c.few(0), OUTSIDE);
    dueRefused("doubt(4, 1)", good, c -> c.doubt(4, 1), OUTSIDE);
    dueRefused("doubt(1, 64)", good, c -> c.doubt(1, 64), OUTSIDE);
    dueRefused("rare(0)", good, c -> c.rare(0), OUTSIDE);
    dueRefused("rare(100)", good, c -> c.rare(100), OUTSIDE);
    dueRefused("years(1, 1, 6, 0)", good, c -> c.years(1, 1, 6, 0), UNKNOWN);
    dueRefused("years(-1, 1, 0, 0)", good, c -> c.years(-1, 1, 0, 0), OUTSIDE);
    dueRefused("years(1, 401, 0, 0)", good, c -> c.years(1, 401, 0, 0), OUTSIDE);
    dueRefused("lost(1, 1, 6)", good, c -> c.lost(1, 1, 6), UNKNOWN);
    dueRefused("lost(10000, 1, 0)", good, c -> c.lost(10000, 1, 0), OUTSIDE);
    dueRefused("image(2)", good, c -> c.image(2), OUTSIDE);
    dueRefused("image(-1)", good, c -> c.image(-1), OUTSIDE);
    dueRefused("restore(2)", good, c -> c.restore(2), OUTSIDE);
    dueRefused("restore(1)", good, c -> c.restore(1), STATE);
    dueRefused("told(26)", good, c -> c.told(26), OUTSIDE);
    ParrotCourt court = testify(rich(good), E, "ab"), other = testify(rich(good), E, "ab");
    pad(court, "ab");
    pad(other, "ab");
    due("odds(0) without a history", court.odds(0), STATE + GONE);
    dueText("all behind odds(0) without a history", all(court), all(other));
  }

  // ---- 1 birds, days

  private static void sayings() {
    sentence("A SAYING is a row of 0 to 5 WORDS a, b, c.");
    for (int words = 0; words <= 5; words++) {
      ParrotCourt court = new ParrotCourt();
      say(court, "abcab".substring(0, words));
      due("fault(1)", court.fault(1), NONE);
      due("bargain()", court.bargain(), words);
      due("told(2)", court.told(2), words);
      say(court, "ccccc".substring(0, words));
      due("testify(5)", court.testify(F), words);
    }
    for (String text : new String[] {"abcabc", "`", "d", "A", "C", "a1", "X", "!", "~", "a".repeat(48)}) {
      ParrotCourt court = new ParrotCourt();
      say(court, text);
      due("bargain() of " + text, court.bargain(), NO);
      due("testify(0) of " + text, court.testify(A), NO);
      due("cost() of " + text, court.cost(), NO);
      due("ways() of " + text, court.ways(), NO + GONE);
      due("odds(0) of " + text, court.odds(0), NO + GONE);
      due("slips(3, 0) of " + text, court.slips(3, 0), NO);
    }
    dueFault(1, "a".repeat(48), 5);
    dueFault(1, "aaaaad", 5);
    dueFault(1, "aaaad", 4);
    dueFault(1, "daaaaa", 0);
  }

  private static void birds() {
    sentence("BIRDS 0 to 5 (A to F) keep a SAYING each, or none (none at first)");
    ParrotCourt court = new ParrotCourt();
    for (int bird = A; bird <= F; bird++) {
      due("says(" + bird + ", -1) at first", court.says(bird, -1), NONE);
      due("says(" + bird + ", 0) at first", court.says(bird, 0), NONE);
    }
    due("told(5) at first", court.told(5), 0);
    dueFault(0, "XAXBXCXDXEXF", NONE);
    dueFault(0, "XG", 1);
    dueFault(0, "X@", 1);
    dueFault(0, "GA", 0);
    dueFault(0, "@A", 0);
    dueFault(0, "mF", NONE);
    dueFault(0, "mG", 1);
    dueFault(0, "m@", 1);
    dueSays("000000", "XF", "abc", F, "abc");
    dueSays("000000", "XA", "", A, "");
  }

  private static void sorts() {
    sentence("and are of a SORT: 0 ECHOES (at first), 1 DROPS, 2 CHANGES, 3 JOINS, 4 ANSWERS.");
    ParrotCourt court = new ParrotCourt();
    for (int bird = A; bird <= F; bird++) due("sort of " + bird + " at first", court.sort(bird, 4), 0);
    due("sort(5, 5)", court.sort(F, 5), OUTSIDE);
    due("sort(5, 0)", court.sort(F, 0), 4);
    due("sort(5, -1)", court.sort(F, -1), OUTSIDE);
    due("told(15)", court.told(15), 0);
    sentence("1: one WORD is left out;");
    dueMany(1, "", 0);
    dueMany(1, "a", 1);
    dueText("slip", slipOf(1, "c", 1), "");
    dueMany(1, "abcab", 5);
    dueText("slip", slipOf(1, "abcab", 1), "bcab");
    dueText("slip", slipOf(1, "abcab", 5), "abca");
    sentence("2: one WORD becomes another one of a, b, c;");
    dueMany(2, "", 0);
    dueMany(2, "a", 2);
    dueText("slip", slipOf(2, "a", 1), "b");
    dueText("slip", slipOf(2, "a", 2), "c");
    dueText("slip", slipOf(2, "c", 2), "b");
    dueMany(2, "abcab", 10);
    dueText("slip", slipOf(2, "abcab", 9), "abcaa");
    sentence("3: one of a, b, c is put in somewhere, if it has fewer than five WORDS;");
    dueMany(3, "", 3);
    dueText("slip", slipOf(3, "", 3), "c");
    dueMany(3, "abca", 11);
    dueMany(3, "abcab", 0);
    dueMany(3, "aaaaa", 0);
    dueText("slip of five words", slipOf(3, "abcab", 1), "abcab");
    dueText("slip of four words", slipOf(3, "abca", 1), "aabca");
    sentence("0 and 4: none.");
    for (String saying : new String[] {"", "a", "abcab"}) {
      dueMany(0, saying, 0);
      dueMany(4, saying, 0);
      dueText("slip", slipOf(0, saying, 1), saying);
      dueText("slip", slipOf(4, saying, 1), saying);
    }
    sentence("(what it kept is forgotten)");
    dueSays("01", "XBXAAB1ABXB2", "abc", B, "ac");
    ParrotCourt twice = testify(court("1", "XAXA", ""), A, "a");
    dueCost(twice, "aab", NONE, 0);
    dueCost(twice, "ab", 1, 0);
  }

  private static void pads() {
    sentence("DAYS are a text on a PAD of up to 48 signs (codes 33 to 126)");
    ParrotCourt court = new ParrotCourt();
    for (int many = 1; many <= 48; many++) due("say", court.say(many % 2 == 0 ? 33 : 126), many);
    due("say of the 49th", court.say(33), FULL);
    due("told(0)", court.told(0), 48);
    due("wipe() of 48", court.wipe(), 48);
    due("wipe() of none", court.wipe(), 0);
    for (int sign : new int[] {32, 127, 0, -1, 255, 256 + 'a', 65536 + 'a', -65536 + 'a', LEAST, LEAST + 'a', MOST}) {
      due("say(" + sign + ")", court.say(sign), OUTSIDE);
    }
    due("told(0)", court.told(0), 0);
    due("say(33)", court.say(33), 1);
    due("say(126)", court.say(126), 2);
    court.wipe();
    say(court, "XA1".repeat(16));
    due("fault(0) of 48 signs", court.fault(0), NONE);
    due("days() of 48 signs", court.days(), 16);
    due("told(0)", court.told(0), 0);
    due("say on an empty pad again", court.say('a'), 1);
  }

  private static void parts() {
    sentence("another BIRD that hears it");
    for (char bird = 'A'; bird <= 'F'; bird++) dueFault(0, "" + bird + bird, 1);
    dueFault(0, "XAAAAB", 3);
    dueFault(0, "AX", 1);
    dueFault(0, "XX", 1);
    dueFault(0, "Am", 1);
    dueFault(0, "AFFA", NONE);
    sentence("and then perhaps a digit 1 to 9");
    dueFault(0, "XA1", NONE);
    dueFault(0, "XA9", NONE);
    dueFault(0, "XA0", 2);
    dueFault(0, "XA:", 2);
    dueFault(0, "XA/", 2);
    dueFault(0, "XA11", 3);
    dueFault(0, "1XA", 0);
    dueFault(0, "X1A", 1);
    ParrotCourt court = court("0", "XA1AB9BC", "");
    due("part(0, 2)", court.part(0, 2), 1);
    due("part(1, 2)", court.part(1, 2), 9);
    due("part(2, 2)", court.part(2, 2), 0);
    sentence("(the SLIP by which it hears it, if there are so many; none without, and if there are not)");
    dueSays("1", "XA3", "abc", A, "ab");
    dueSays("1", "XA4", "abc", A, "abc");
    dueSays("1", "XA", "abc", A, "abc");
    dueSays("1", "XA1", "", A, "");
    dueSays("3", "XA9", "ab", A, "ab");
    dueSays("3", "XA9", "aab", A, "aabc");
    dueSays("2", "XA9", "abcab", A, "abcaa");
    due("part(0, 2) where there are not so many", court("1", "XA4", "abc").part(0, 2), 4);
    sentence("m and a BIRD (it falls silent, or is so no more)");
    dueFault(0, "mA1", 2);
    dueFault(0, "mX", 1);
    dueFault(0, "mm", 1);
    dueFault(0, "m", 1);
    dueFault(0, "mAmA", NONE);
    dueFault(0, "MA", 0);
    dueHeard("00", "XAmAAB", "100");
    dueHeard("00", "XAmAmAAB", "1001");
    dueHeard("00", "XAmAmAmAAB", "10000");
    sentence("16 PARTS at most.");
    String fifteen = "XA".repeat(15);
    dueFault(0, fifteen + "XB", NONE);
    dueFault(0, fifteen + "mB", NONE);
    dueFault(0, fifteen + "XB9", NONE);
    dueFault(0, fifteen + "XBX", 32);
    dueFault(0, fifteen + "XBXC", 32);
    dueFault(0, fifteen + "mBm", 32);
    dueFault(0, fifteen + "XB9A", 33);
    dueFault(0, fifteen + "XBx", 32);
    dueFault(0, "mA".repeat(24), 32);
    dueFault(0, "XA1".repeat(15) + "XA", NONE);
    dueFault(0, "XA1".repeat(15) + "XAB", 47);
    due("days() of 16 that fall silent", court("0", "mA".repeat(16), "").told(1), 16);
  }

  private static void faults() {
    sentence("THE FAULT: the place (from 0 on) of the first sign that can not stand there, or the number of signs, "
        + "if more must come (no signs are no PARTS).");
    ParrotCourt court = court("0", "XAAB", "a");
    due("fault(0) of no signs", court.fault(0), NONE);
    due("days() of no signs", court.days(), 0);
    due("told(1)", court.told(1), 0);
    due("part(0, 0)", court.part(0, 0), UNKNOWN);
    due("fault(1) of no signs", court.fault(1), NONE);
    dueFault(0, "!", 0);
    dueFault(0, "~A", 0);
    dueFault(0, "X", 1);
    dueFault(0, "F", 1);
    dueFault(0, "XAm", 3);
    dueFault(0, "XA1B", 4);
    dueFault(0, "XA1".repeat(15) + "X", 46);
    dueFault(0, "XA1".repeat(15) + "m", 46);
    dueFault(0, "XAXXX", 3);
    dueFault(0, "x".repeat(48), 0);
    dueFault(0, "XA1".repeat(15) + "XAx", 47);
  }

  private static void numbers() {
    sentence("those that are unlike (and unlike the SAYING)");
    dueMany(1, "aa", 1);
    dueMany(1, "aaaaa", 1);
    dueMany(1, "aabb", 2);
    dueMany(1, "abab", 4);
    dueMany(2, "aaaaa", 10);
    dueMany(3, "a", 5);
    dueMany(3, "aaaa", 11);
    dueMany(3, "ab", 7);
    sentence("by the place from 0 on at which a WORD is left out, changed, put in ahead of (or, at last, behind all)");
    dueText("slip", slipOf(1, "cba", 1), "ba");
    dueText("slip", slipOf(1, "cba", 3), "cb");
    dueText("slip", slipOf(2, "cba", 1), "aba");
    dueText("slip", slipOf(2, "cba", 6), "cbc");
    dueText("slip", slipOf(3, "a", 1), "aa");
    dueText("slip", slipOf(3, "a", 5), "ac");
    dueText("slip", slipOf(3, "cb", 7), "cbc");
    sentence("then by the WORD, a first");
    dueText("slip", slipOf(3, "", 1), "a");
    dueText("slip", slipOf(3, "", 2), "b");
    dueText("slip", slipOf(2, "b", 1), "a");
    dueText("slip", slipOf(2, "b", 2), "c");
    dueText("slip", slipOf(3, "c", 2), "bc");
    sentence("each just once, where it comes first.");
    dueText("slip", slipOf(3, "ab", 4), "abb");
    dueText("slip", slipOf(3, "ab", 5), "acb");
    dueText("slip", slipOf(3, "ab", 6), "aba");
    dueText("slip", slipOf(1, "aab", 2), "aa");
    dueText("slip", slipOf(1, "abb", 2), "ab");
    dueText("slip", slipOf(1, "abb", 3), "abb");
  }

  private static void done() {
    sentence("who is silent is not heard");
    dueHeard("00", "XAmAABAC", "1000");
    dueHeard("00", "mAXAAB", "010");
    dueHeard("04", "XAABmBBA", "1100");
    sentence("of SORT 4 only, if the PART ahead was one in which it heard that same BIRD (a PART that was heard)");
    dueHeard("04", "XAABBA", "111");
    dueHeard("04", "BAXAAB", "011");
    dueHeard("04", "XAABBC", "110");
    dueHeard("04", "XAABXCBA", "1110");
    dueHeard("04", "XAABmCBA", "1100");
    dueHeard("04", "XAXBmAABBA", "11000");
    dueHeard("04", "XBABBA", "100");
    dueHeard("04", "XBBA", "10");
    dueHeard("44", "XAXBABBA", "1100");
    dueHeard("04", "XAABBABA", "1110");
    dueHeard("044", "XAABBCCB", "1100");
    dueHeard("000004", "XAAFFAFB", "1110");
    sentence("who keeps none is not heard");
    dueHeard("00", "ABXAAB", "011");
    dueHeard("00", "AB", "0");
    ParrotCourt empty = court("00", "XAAB", "");
    due("part(1, 3): without words is not none", empty.part(1, 3), 1);
    due("says(1, -1)", empty.says(B, -1), 0);
    sentence("(silent ones hear, too)");
    dueHeard("00", "mBXBmBBA", "0101");
    dueSays("00", "mBXB", "abc", B, "abc");
    sentence("Nobody is silent at the beginning, and none keeps a SAYING.");
    ParrotCourt again = court("00", "ABXAABmA", "ab");
    for (int time = 0; time < 3; time++) {
      due("part(0, 3)", again.part(0, 3), 0);
      due("part(2, 3)", again.part(2, 3), 1);
      due("told(5)", again.told(5), 3);
    }
  }

  // ---- 2 what birds say

  private static void says() {
    sentence("THE BARGAIN is a SAYING (without WORDS at first).");
    ParrotCourt court = new ParrotCourt();
    due("told(2)", court.told(2), 0);
    say(court, "XA");
    court.days();
    due("says(0, -1)", court.says(A, -1), 0);
    due("says(0, 0)", court.says(A, 0), NONE);
    sentence("SAYS: what a BIRD keeps when all PARTS are DONE, by their digits.");
    dueSays("1", "XA1", "abc", A, "bc");
    dueSays("13", "XA1AB9", "abcab", B, "bcacb");
    dueSays("1", "XA1XA2", "abc", A, "ac");
    dueSays("0", "", "abc", A, "-");
    sentence("how many WORDS (i = -1), the i-th (its code); NONE: it keeps none; there are not so many.");
    court = court("0", "XA", "abcab");
    due("says(0, -1)", court.says(A, -1), 5);
    due("says(0, 0)", court.says(A, 0), 'a');
    due("says(0, 4)", court.says(A, 4), 'b');
    for (int i : new int[] {5, 6, MOST, -2, LEAST}) due("says(0, " + i + ")", court.says(A, i), NONE);
    for (int i : new int[] {-1, 0, 5}) due("says(1, " + i + ")", court.says(B, i), NONE);
  }

  // ---- 3 testimony

  private static void testimony() {
    sentence("(each told, or not; not at first)");
    ParrotCourt court = court("0", "XA", "");
    for (int bird = A; bird <= F; bird++) {
      due("told(2" + bird + ") at first", court.told(20 + bird), NONE);
      due("unsay(" + bird + ") at first", court.unsay(bird), 0);
    }
    due("testify(0) without words", court.testify(A), 0);
    due("told(20)", court.told(20), 0);
    due("told(4)", court.told(4), 1);
    due("unsay(0)", court.unsay(A), 1);
    due("unsay(0) again", court.unsay(A), 0);
    sentence("(digits do not matter)");
    for (String days : new String[] {"XA", "XA1", "XA9"}) {
      court = testify(court("1", days, ""), A, "a");
      dueCost(court, "a", 0, 1);
      dueCost(court, "ab", 1, 0);
    }
    sentence("(one that has heard nothing can say nothing: no HISTORY then)");
    for (String saying : new String[] {"", "a"}) {
      dueCost(testify(court("0", "XA", ""), B, saying), saying, NONE, 0);
      dueCost(testify(new ParrotCourt(), A, saying), saying, NONE, 0);
      dueCost(testify(court("04", "XAXBmABA", ""), C, saying), saying, NONE, 0);
      dueCost(testify(court("00", "XAmAAB", ""), B, saying), saying, NONE, 0);
    }
    sentence("WHO is heard by whom does not depend on SLIPS.");
    court = testify(court("104", "XAAC1CA", ""), C, "");
    dueCost(court, "a", 1, 0);
    dueCost(court, "", 0, 1);
    due("part(2, 3)", court.part(2, 3), 1);
  }

  /** Where each of the 16 PARTS must slip: five words lost and put in, and six more that change one. */
  private static ParrotCourt sixteenSlips() {
    ParrotCourt court = court("132222", "XAABBAABBAABBAABBAAB" + "XCCDXCXEEFXE", "");
    testify(testify(testify(court, B, "bbbbb"), C, "baaaa"), D, "bbaaa");
    return testify(testify(court, E, "baaaa"), F, "bbaaa");
  }

  private static void costs() {
    sentence("(told slip by slip: PARTS with a SLIP)");
    ParrotCourt court = sixteenSlips();
    dueCost(court, "aaaaa", 16, 0);
    due("canBe(16) counts aaaaa", court.canBe(16) > court.canBe(15) ? 1 : 0, 1);
    dueCost(court, "baaaa", 10, 0);
    dueLikely(court, 8, 1, "bbaaa");
    due("canBe(7)", court.canBe(7), 0);
    due("canBe(8)", court.canBe(8), 1);
    due("canBe(9)", court.canBe(9), 1);
    due("canBe(10)", court.canBe(10), 2);
    dueCost(testify(court("2", "XA", ""), A, "a"), "b", 1, 0);
    dueCost(testify(court("22", "XAAB", ""), B, "a"), "b", 1, 0);
    sentence("NONE: there is none.");
    dueCost(testify(court("2", "XA", ""), A, "a"), "", NONE, 0);
    dueCost(testify(court("1111", "XAABBCCD", ""), D, ""), "abcab", NONE, 0);
    dueCost(testify(court("1111", "XAABBCCD", ""), D, ""), "abca", 4, 0);
    sentence("FEWEST: the least COST of all 364 BARGAINS;");
    dueLikely(new ParrotCourt(), 0, 364, "");
    due("canBe(0)", new ParrotCourt().canBe(0), 364);
    due("canBe(16)", new ParrotCourt().canBe(16), 364);
    dueLikely(testify(court("0", "XA", ""), A, "ccccc"), 0, 1, "ccccc");
    dueLikely(testify(court("0", "XA", ""), A, ""), 0, 1, "");
    sentence("LIKELY: BARGAINS of that COST: how many; the first by length, then letters.");
    dueLikely(testify(testify(court("11", "XAXB", ""), A, "a"), B, "b"), 2, 2, "ab");
    dueLikely(testify(testify(court("33", "XAXB", ""), A, "ca"), B, "cb"), 2, 1, "c");
    dueLikely(testify(testify(court("13", "XAXB", ""), A, "c"), B, "cb"), 1, 2, "c");
    dueLikely(testify(testify(court("22", "XAXB", ""), A, "ba"), B, "ab"), 2, 2, "aa");
    dueLikely(testify(testify(court("22", "XAXB", ""), A, "c"), B, "b"), 1, 2, "b");
    sentence("NONE: no BARGAIN has a HISTORY (of each).");
    court = testify(testify(court("22", "XAXB", ""), A, "a"), B, "ab");
    for (int what : new int[] {0, 1, 2, 10, 11, 12, 13, 14}) due("likely(" + what + ")", court.likely(what), NONE);
    for (int what : new int[] {-1, 3, 9, 15}) due("likely(" + what + ")", court.likely(what), OUTSIDE);
    due("canBe(16)", court.canBe(16), 0);
  }

  private static void ways() {
    sentence("WAYS of a BARGAIN: HISTORIES of FEWEST SLIPS with it (0, if its COST is more)");
    ParrotCourt court = testify(court("2", "XA", ""), A, "a");
    dueCost(court, "a", 0, 1);
    dueCost(court, "b", 1, 0);
    dueCost(court, "ab", NONE, 0);
    dueCost(testify(testify(court("2222", "XAABBCXD", ""), C, "b"), D, "a"), "a", 1, 3);
    sentence("PARTS by which nothing told is changed slip not in these");
    dueCost(testify(court("222", "XAABXC", ""), A, "a"), "a", 0, 1);
    dueCost(testify(court("222", "XAXA", ""), A, "a"), "a", 0, 1);
    dueOdds(testify(court("222", "XAABXC", ""), A, "a"), "a", 1, 1);
    sentence("ODDS: its WAYS of those of all BARGAINS (a fraction;");
    dueOdds(new ParrotCourt(), "", 1, 364);
    dueOdds(testify(court("2", "XA", ""), A, "a"), "b", 0, 1);
    dueOdds(testify(court("2", "XA", ""), A, "a"), "abcab", 0, 1);
    court = testify(new ParrotCourt(), A, "");
    due("odds(0) without a history", court.odds(0), STATE + GONE);
    due("odds(1) without a history", court.odds(1), STATE + GONE);
    due("ways() without a history", court.ways(), 0);
    due("cost() without a history", court.cost(), NONE);
  }

  private static void canBeAndTaught() {
    sentence("CAN BE with k SLIPS: COST is k or less.");
    ParrotCourt court = testify(court("222", "XAABBC", ""), C, "aaa");
    int[] many = {1, 7, 19, 27, 27};
    for (int k = 0; k < many.length; k++) due("canBe(" + k + ")", court.canBe(k), many[k]);
    due("canBe(16)", court.canBe(16), 27);
    due("canBe(17)", court.canBe(17), OUTSIDE);
    due("canBe(-1)", court.canBe(-1), OUTSIDE);
    sentence("TAUGHT by k: no BARGAIN CAN BE with k SLIPS by all TESTIMONIES; but without that of one BIRD some can: "
        + "those BIRDS, as bits.");
    // a, b and ccc: A and B differ by one slip, C fits with neither
    court = testify(testify(testify(court("222", "XAXBXC", ""), A, "a"), B, "b"), C, "ccc");
    due("taught(0)", court.taught(0), 0);
    due("taught(1)", court.taught(1), 4);
    due("taught(16)", court.taught(16), 4);
    court.unsay(C);
    due("taught(0) of two", court.taught(0), 3);
    due("taught(1) of two", court.taught(1), STATE);
    court.unsay(B);
    due("taught(0) of one that can be", court.taught(0), STATE);
    due("taught(0) of one that has heard nothing", testify(court("0", "XA", ""), F, "").taught(0), 32);
    court = testify(testify(court("0", "XA", ""), F, ""), E, "");
    due("taught(16) of two that have heard nothing", court.taught(16), 0);
    due("taught(17)", court.taught(17), OUTSIDE);
    due("taught(-1)", court.taught(-1), OUTSIDE);
    due("taught(0) of nothing told", new ParrotCourt().taught(0), STATE);
    // without B 2 slips are enough, without C or E 7, with all of them 8
    court = sixteenSlips();
    int[] birds = {0, 0, 2, 2, 2, 2, 2, 22, STATE, STATE};
    for (int k = 0; k < birds.length; k++) due("taught(" + k + ")", court.taught(k), birds[k]);
    due("taught(16)", court.taught(16), STATE);
  }

  // ---- 4 telling, draws

  private static void telling() {
    sentence("BARGAINS of just n WORDS (1 to 3)");
    ParrotCourt court = court("0", "XA", "");
    for (int n = -1; n <= 5; n++) due("few(" + n + ")", court.few(n), n >= 1 && n <= 3 ? 1 : OUTSIDE);
    for (int n = -1; n <= 5; n++) due("doubt(" + n + ", 1)", court.doubt(n, 1), n >= 1 && n <= 3 ? 0 : OUTSIDE);
    sentence("with one SLIP at most in each HISTORY");
    due("few(1) of two that change", court("22", "XAXB", "").few(1), NONE);
    due("few(1) of three that change", court("222", "XAXBXC", "").few(1), 7);
    due("few(1) of two that lose", court("11", "XAXB", "").few(1), 3);
    due("few(1) of two that put in", court("33", "XAXB", "").few(1), 3);
    due("few(1) of one that never slips", court("04", "XAXB", "").few(1), 1);
    due("few(1) of two that hear one", court("100", "XAABAC", "").few(1), NONE);
    due("few(1) of one that hears anew", court("20", "XAABXB", "").few(1), 2);
    due("few(3) of 16 parts", court("020000", "XA".repeat(15) + "XB", "").few(3), 1);
    due("few(3) of 16 parts", court("200000", "XA".repeat(14) + "XBAC", "").few(3), 2);
    due("doubt(3, 63) of 16 parts", court("200000", "XA".repeat(16), "").doubt(3, 63), 27);
    sentence("(a BIRD that has heard nothing says nothing, always)");
    court = court("00", "XAmAAB", "");
    due("doubt(1, 2)", court.doubt(1, 2), 3);
    due("doubt(1, 62)", court.doubt(1, 62), 3);
    due("doubt(1, 63)", court.doubt(1, 63), 0);
    due("few(1) where none has heard anything", court("00", "ABmA", "").few(1), NONE);
    due("few(1) without parts", new ParrotCourt().few(1), NONE);
    sentence("FEW: the fewest BIRDS that TELL, the least set as bits.");
    due("few(2)", court("000000", "XFXEXD", "").few(2), 8);
    due("few(2)", court("111110", "XAXBXCXDXEXF", "").few(2), 32);
    due("few(2)", court("011111", "XBXCXDXEXF", "").few(2), 6);
    due("few(2)", court("222222", "XAXBXCXDXEXF", "").few(2), 7);
    sentence("DOUBT of a set: how many of the BARGAINS can be taken for some other one");
    court = court("0", "XA", "");
    int[] many = {3, 9, 27};
    for (int n = 1; n <= 3; n++) {
      due("doubt(" + n + ", 0)", court.doubt(n, 0), many[n - 1]);
      due("doubt(" + n + ", 63)", court.doubt(n, 63), 0);
      due("doubt(" + n + ", 64)", court.doubt(n, 64), OUTSIDE);
      due("doubt(" + n + ", -1)", court.doubt(n, -1), OUTSIDE);
    }
  }

  private static void draws() {
    sentence("a seed x (0 to 9999)");
    // 0: 74, 5624; 9999: 29092, 19253
    ParrotCourt court = always("1", "XA", "abc");
    dueText("seed 0", yearsOf(court, 0, 1, A), "ab");
    dueText("seed 9999", yearsOf(court, 9999, 1, A), "ab");
    court.rare(4);
    dueText("seed 0 by 4", yearsOf(court, 0, 1, A), "abc");
    dueText("seed 9999 by 4", yearsOf(court, 9999, 1, A), "ab");
    due("years(-1, ..)", court.years(-1, 1, A, -1), OUTSIDE);
    due("years(10000, ..)", court.years(10000, 1, A, -1), OUTSIDE);
    due("lost(-1, ..)", court.lost(-1, 1, A), OUTSIDE);
    due("lost(10000, ..)", court.lost(10000, 1, A), OUTSIDE);
    sentence("for each PART that is heard (digits do not matter), of a hearer of SORT 1 to 3, x becomes");
    // 0: 74, 5624, 28652, 51790, 17641: a draw of two numbers each, and B loses what its own has left
    String[] behind = {"b", "b", "ab"};
    String[] days = {"XAAB", "XA1AB9", "XCmDXDmCDBXB"};
    String[] sorts = {"11", "11", "0104"};
    for (int i = 0; i < 3; i++) dueText(days[i], yearsOf(always(sorts[i], days[i], "abc"), 0, 1, B), behind[i]);
    sentence("(75 x and 74) left over by 65537");
    // 872: 65474, ahead of the first that is left over; 873: 65549, so 12, and then 974
    court = court("1", "XA", "abc");
    court.rare(12);
    dueText("seed 873 by 12", yearsOf(court, 873, 1, A), "ab");
    dueText("seed 872 by 12", yearsOf(court, 872, 1, A), "abc");
    court.rare(13);
    dueText("seed 873 by 13", yearsOf(court, 873, 1, A), "abc");
    sentence("if it is left over by RARE (1 to 99; 40 at first) as 0, there is a SLIP");
    court = court("1", "XA", "abc");
    dueText("by 40 at first", yearsOf(court, 1752, 1, A), "ab");
    dueText("by 40 at first", yearsOf(court, 1753, 1, A), "abc");
    due("rare(0)", court.rare(0), OUTSIDE);
    due("rare(100)", court.rare(100), OUTSIDE);
    due("rare(99)", court.rare(99), 40);
    dueText("by 99", yearsOf(court, 1752, 1, A), "abc");
    due("rare(1)", court.rare(1), 99);
    dueText("by 1", yearsOf(court, 1753, 1, A).length() + "", "2");
    due("told(3)", court.told(3), 1);
    sentence("the SLIP is the one numbered 1 and x left over by how many there are (none, if there are none).");
    // 0: 74, 5624: 5624 is left over by 3 as 2, by 2 as 0, by 7 as 3, by 1 as 0
    dueText("of 3", yearsOf(always("1", "XA", "abc"), 0, 1, A), "ab");
    dueText("of 2", yearsOf(always("1", "XA", "ab"), 0, 1, A), "b");
    dueText("of 7", yearsOf(always("3", "XA", "ab"), 0, 1, A), "abb");
    dueText("of 1", yearsOf(always("1", "XA", "a"), 0, 1, A), "");
    dueText("of 0", yearsOf(always("1", "XA", ""), 0, 1, A), "");
    dueText("of 0", yearsOf(always("3", "XA", "abcab"), 0, 1, A), "abcab");
  }

  private static void years() {
    sentence("DAYS again and again (1 to 400 times)");
    ParrotCourt court = court("0", "XA", "ab");
    due("years(0, 1, ..)", court.years(0, 1, A, -1), 2);
    due("years(0, 400, ..)", court.years(0, 400, A, -1), 2);
    for (int n : new int[] {0, 401, -1, LEAST, MOST}) {
      due("years(0, " + n + ", ..)", court.years(0, n, A, -1), OUTSIDE);
      due("lost(0, " + n + ", 0)", court.lost(0, n, A), OUTSIDE);
    }
    due("years without parts", new ParrotCourt().years(0, 400, A, -1), NONE);
    due("lost without parts", new ParrotCourt().lost(0, 400, A), 1);
    sentence("BIRDS keep what they kept from day to day");
    dueText("on day 5", yearsOf(court("000000", "EFDECDBCABXA", "abc"), 0, 5, F), "-");
    dueText("on day 6", yearsOf(court("000000", "EFDECDBCABXA", "abc"), 0, 6, F), "abc");
    dueText("asked anew, none keeps anything", yearsOf(court("00", "ABXA", "abc"), 0, 1, B), "-");
    sentence("X says THE BARGAIN in the first one alone (and is not heard later)");
    court = always("01", "XAABBA", "abcab");
    for (int n = 1; n <= 6; n++) due("words behind day " + n, court.years(3, n, A, -1), Math.max(0, 5 - n));
    due("part(0, 3) all the same", court.part(0, 3), 1);
    // on day 2 nobody is heard just ahead of B, and X is not: A keeps what it has kept
    dueText("X is no PART that was heard", yearsOf(always("14", "XBBA", "abc"), 0, 2, A), "-");
    sentence("nobody is silent when a day begins");
    dueText("on day 1", yearsOf(court("00", "ABXAmA", "abc"), 0, 1, B), "-");
    dueText("on day 2", yearsOf(court("00", "ABXAmA", "abc"), 0, 2, B), "abc");
    dueText("on day 2", yearsOf(court("00", "XAmAAB", "abc"), 0, 2, B), "-");
    sentence("LOST: the first DAY (from 1 on) behind which it keeps another SAYING than THE BARGAIN (or none).");
    court = always("001", "CBXBXAAC", "abc");
    due("lost on day 2, within 1", court.lost(0, 1, B), NONE);
    due("lost on day 2, within 2", court.lost(0, 2, B), 2);
    due("lost on day 2, within 400", court.lost(0, 400, B), 2);
    due("lost on day 1, within 1", court.lost(0, 1, C), 1);
    due("lost by one that keeps none", court.lost(0, 1, F), 1);
    due("never lost", court.lost(0, 400, A), NONE);
    due("never lost without words", always("1", "XA", "").lost(0, 400, A), NONE);
    court = court("000001", "XAABBCCDDEEF", "");
    due("another saying of as many words", always("2", "XA", "abc").lost(0, 1, A), 1);
  }

  /** One bird that is lost on the very last day, and not a day ahead of it. */
  private static void lostOnTheLastDay() {
    sentence("LOST within n DAYS (1 to 400) by a seed; NONE.");
    int found = 0;
    for (int seed = 0; seed < 10000 && found < 3; seed++) {
      ParrotCourt court = court("01", "XBXAAB", "abc");
      court.rare(99);
      int day = court.lost(seed, 400, B);
      if (day < 200) continue;
      found++;
      due("lost within one day less", court.lost(seed, day - 1, B), NONE);
      due("lost within as many", court.lost(seed, day, B), day);
      dueText("years", yearsOf(court, seed, day - 1, B), "abc");
      due("years", court.years(seed, day, B, -1), 2);
    }
    due("seeds that are lost late", found, 3);
  }

  // ---- images, what is told

  private static void images() {
    sentence("All but the PAD is kept in an IMAGE (0, 1): 1. OUTSIDE.");
    ParrotCourt court = rich("ab");
    due("image(1)", court.image(1), 1);
    due("told(0)", court.told(0), 2);
    for (int n : new int[] {2, -1, LEAST, MOST}) due("image(" + n + ")", court.image(n), OUTSIDE);
    pad(court, "abcab");
    due("restore(0)", court.restore(0), 1);
    due("told(0): the pad stays", court.told(0), 5);
    due("restore(1)", court.restore(1), 1);
    due("told(0): the pad stays", court.told(0), 5);
    pad(court, "ab");
    dueText("restored", all(court), all(rich("ab")));
    sentence("It is as it was when it was kept: 1. OUTSIDE; STATE: it was not.");
    court = new ParrotCourt();
    due("restore(0)", court.restore(0), STATE);
    due("restore(1)", court.restore(1), STATE);
    due("image(1)", court.image(1), 1);
    due("restore(0)", court.restore(0), STATE);
    for (int n : new int[] {2, -1, LEAST, MOST}) due("restore(" + n + ")", court.restore(n), OUTSIDE);
    court.rare(5);
    due("restore(1)", court.restore(1), 1);
    due("told(3)", court.told(3), 40);
    court.rare(6);
    court.sort(F, 2);
    due("restore(1) once more", court.restore(1), 1);
    due("told(3)", court.told(3), 40);
    due("told(15)", court.told(15), 0);
    court.rare(7);
    court.image(1);
    court.rare(8);
    court.restore(1);
    due("told(3) of what was kept last", court.told(3), 7);
  }

  private static void told() {
    sentence("0 signs, 1 PARTS, 2 WORDS of THE BARGAIN, 3 RARE, 4 BIRDS with TESTIMONY (bits), 5 BIRDS that have heard "
        + "something at the end (bits), 10 to 15 SORTS, 20 to 25 WORDS of TESTIMONY (NONE). OUTSIDE.");
    ParrotCourt court = testify(testify(court("100002", "XAXBXCXDXEXF", "abcab"), A, ""), F, "abcab");
    int[] want = {0, 6, 5, 40, 33, 63};
    for (int what = 0; what < 6; what++) due("told(" + what + ")", court.told(what), want[what]);
    for (int what : new int[] {-1, 6, 7, 8, 9, 16, 17, 18, 19, 26, 27, 256, LEAST, LEAST + 10, LEAST + 20, MOST}) {
      due("told(" + what + ")", court.told(what), OUTSIDE);
    }
    due("told(10)", court.told(10), 1);
    due("told(15)", court.told(15), 2);
    due("told(20)", court.told(20), 0);
    due("told(21)", court.told(21), NONE);
    due("told(25)", court.told(25), 5);
    due("told(5) of birds that heard words not at all", court("0", "XA", "").told(5), 1);
    due("told(5) of one that is silent at the end", court("00", "XAmA", "a").told(5), 1);
  }

  // ---- too small, too large: every number of every call

  private static boolean within(int value, int... edges) {
    for (int i = 0; i + 1 < edges.length; i += 2) {
      if (value >= edges[i] && value <= edges[i + 1]) return true;
    }
    return false;
  }

  private interface Call {
    long of(ParrotCourt court, int value);
  }

  /** The call is refused so for each number beyond these edges, and not for those within. */
  private static void dueWithin(String words, String name, long refusal, Call call, int... edges) {
    sentence(words);
    ParrotCourt court = null;
    for (int i = 0; i < VALUES.length; i++) {
      // an object answers 512 calls, and no more
      if (i % 200 == 0) court = testify(court("0123", "XAABBC", "abc"), F, "");
      court.wipe();
      long got = call.of(court, VALUES[i]);
      due(name + " of " + VALUES[i] + " is refused", got == refusal ? 1 : 0, within(VALUES[i], edges) ? 0 : 1);
    }
  }

  /** Small ones, those about each edge, and those that come within when only some of their bits are looked at. */
  private static final int[] VALUES = values();

  private static int[] values() {
    int[] values = new int[5000];
    int many = 0;
    for (int bit : new int[] {0, 8, 15, 16, 24, 31}) {
      for (int more = -30; more <= 130; more++) values[many++] = (bit == 0 ? 0 : 1 << bit) + more;
      for (int more = -30; more <= 130; more++) values[many++] = -(1 << bit) + more;
    }
    for (int about : new int[] {400, 9999, MOST - 5}) {
      for (int more = -5; more <= 5; more++) values[many++] = about + more;
    }
    return Arrays.copyOf(values, many);
  }

  private static void numbersOfCalls() {
    dueWithin("`int sort(int bird, int v)`: SORT of a BIRD: which it was. UNKNOWN; OUTSIDE.",
        "bird", UNKNOWN, (c, x) -> c.sort(x, 1), 0, 5);
    dueWithin("`int sort(int bird, int v)`: SORT of a BIRD: which it was. UNKNOWN; OUTSIDE.",
        "v", OUTSIDE, (c, x) -> c.sort(5, x), 0, 4);
    dueWithin("`int say(int sign)`: A sign more: how many. OUTSIDE; FULL.",
        "sign", OUTSIDE, (c, x) -> c.say(x), 33, 126);
    dueWithin("`int fault(int how)`: THE FAULT as DAYS (how = 0), as a SAYING (1: a to c, five at most); NONE. OUTSIDE.",
        "how", OUTSIDE, (c, x) -> c.fault(x), 0, 1);
    dueWithin("3 whether it is heard (1, 0; of m 0). UNKNOWN; OUTSIDE.",
        "part", UNKNOWN, (c, x) -> c.part(x, 1), 0, 2);
    dueWithin("3 whether it is heard (1, 0; of m 0). UNKNOWN; OUTSIDE.",
        "what", OUTSIDE, (c, x) -> c.part(2, x), 0, 3);
    dueWithin("NONE. OUTSIDE: the SORT; NO: there is a FAULT.", "sort", OUTSIDE, (c, x) -> c.slips(x, 0), 0, 4);
    dueWithin("how many WORDS the i-th has (i 1 on); NONE.", "i", NONE, (c, x) -> c.slips(3, x), 0, 3);
    dueWithin("NONE: it keeps none; there are not so many. UNKNOWN.", "bird", UNKNOWN, (c, x) -> c.says(x, -1), 0, 5);
    dueWithin("NONE: it keeps none; there are not so many. UNKNOWN.", "i", NONE, (c, x) -> c.says(0, x), -1, 2);
    dueWithin("The PAD becomes TESTIMONY of a BIRD (it is empty then): how many WORDS. UNKNOWN; NO: there is a FAULT.",
        "bird", UNKNOWN, (c, x) -> c.testify(x), 0, 5);
    dueWithin("TESTIMONY of a BIRD goes: 1 (0: none was told). UNKNOWN.",
        "bird", UNKNOWN, (c, x) -> c.unsay(x), 0, 5);
    dueWithin("OUTSIDE: 0 to 2, 10 to 14.", "what", OUTSIDE, (c, x) -> c.likely(x), 0, 2, 10, 14);
    dueWithin("ODDS of the SAYING on the PAD. OUTSIDE, STATE: no BARGAIN has a HISTORY, NO.",
        "part", GONE + OUTSIDE, (c, x) -> c.odds(x), 0, 1);
    dueWithin("How many BARGAINS CAN BE with k SLIPS (0 to 16). OUTSIDE.", "k", OUTSIDE, (c, x) -> c.canBe(x), 0, 16);
    dueWithin("TAUGHT by k, as bits. OUTSIDE; STATE: some BARGAIN CAN BE.",
        "k", OUTSIDE, (c, x) -> c.taught(x), 0, 16);
    dueWithin("FEW, as bits; NONE: not even all BIRDS TELL. OUTSIDE.", "n", OUTSIDE, (c, x) -> c.few(x), 1, 3);
    dueWithin("DOUBT of a set (bits 0 to 63). OUTSIDE.", "n", OUTSIDE, (c, x) -> c.doubt(x, 1), 1, 3);
    dueWithin("DOUBT of a set (bits 0 to 63). OUTSIDE.", "birds", OUTSIDE, (c, x) -> c.doubt(1, x), 0, 63);
    dueWithin("RARE: which it was. OUTSIDE.", "v", OUTSIDE, (c, x) -> c.rare(x), 1, 99);
    String years = "The SAYING of a BIRD behind n DAYS by a seed: how many WORDS (i = -1), the i-th (its code); NONE. UNKNOWN; OUTSIDE.";
    dueWithin(years, "seed", OUTSIDE, (c, x) -> c.years(x, 1, 0, -1), 0, 9999);
    dueWithin(years, "n", OUTSIDE, (c, x) -> c.years(1, x, 0, -1), 1, 400);
    dueWithin(years, "bird", UNKNOWN, (c, x) -> c.years(1, 1, x, -1), 0, 5);
    dueWithin(years, "i", NONE, (c, x) -> c.years(1, 1, 0, x), -1, 2);
    String lost = "LOST within n DAYS (1 to 400) by a seed; NONE. UNKNOWN; OUTSIDE.";
    dueWithin(lost, "seed", OUTSIDE, (c, x) -> c.lost(x, 1, 0), 0, 9999);
    dueWithin(lost, "n", OUTSIDE, (c, x) -> c.lost(1, x, 0), 1, 400);
    dueWithin(lost, "bird", UNKNOWN, (c, x) -> c.lost(1, 1, x), 0, 5);
    dueWithin("All but the PAD is kept in an IMAGE (0, 1): 1. OUTSIDE.", "n", OUTSIDE, (c, x) -> c.image(x), 0, 1);
    dueWithin("It is as it was when it was kept: 1. OUTSIDE; STATE: it was not.",
        "n", OUTSIDE, (c, x) -> c.restore(x), 0, 1);
    dueWithin("20 to 25 WORDS of TESTIMONY (NONE). OUTSIDE.",
        "what", OUTSIDE, (c, x) -> c.told(x), 0, 5, 10, 15, 20, 25);
  }

  public static void main(String[] args) throws IOException {
    Path told = Path.of("../shared/DOC.md");
    if (Files.exists(told)) document = Files.readString(told).replaceAll("\\s+", " ");
    refusalsInOrder();
    refusalsChangeNothing();
    sayings();
    birds();
    sorts();
    pads();
    parts();
    faults();
    numbers();
    done();
    says();
    testimony();
    costs();
    ways();
    canBeAndTaught();
    telling();
    draws();
    years();
    lostOnTheLastDay();
    images();
    told();
    numbersOfCalls();
    System.out.println(checked + " answers checked of " + sentences.size() + " sentences that name edges, " + wrong + " wrong");
    if (wrong != 0) System.exit(1);
  }
}
