import java.util.List;

/** All slips of all 364 SAYINGS: how many, how long, which by digits, and which a HISTORY may have. */
public final class SlipsTest extends Courts {
  private static int runsIn(String saying) {
    int runs = 0;
    for (int i = 0; i < saying.length(); i++) {
      if (i == 0 || saying.charAt(i) != saying.charAt(i - 1)) runs++;
    }
    return runs;
  }

  /** A word of a run may be left out; each may become two others; at each place but the first, one is no new one. */
  private static int many(int sort, String saying) {
    int words = saying.length();
    if (sort == 1) return runsIn(saying);
    if (sort == 2) return 2 * words;
    return sort == 3 && words < 5 ? 3 + 2 * words : 0;
  }

  private static void numbered(int sort, String saying) {
    place = "slips of \"" + saying + "\" by " + sort;
    List<String> slips = Model.slipsOf(sort, saying);
    int words = saying.length() + (sort == 1 ? -1 : sort == 3 ? 1 : 0);
    ParrotCourt court = new ParrotCourt();
    court.sort(A, sort);
    say(court, saying);
    due("slips(.., 0)", court.slips(sort, 0), many(sort, saying));
    due("the model", slips.size(), many(sort, saying));
    for (int i = 1; i <= 12; i++) due("slips(.., " + i + ")", court.slips(sort, i), i <= slips.size() ? words : NONE);
    court.bargain();
    for (int digit = 1; digit <= 9; digit++) {
      say(court, "XA" + digit);
      court.days();
      dueText("slip " + digit, saysOf(court, A), digit <= slips.size() ? slips.get(digit - 1) : saying);
    }
  }

  /** From which BARGAINS a bird of that SORT can come to say it, and by how many slips. */
  private static void heardFrom(int sort, String said) {
    place = "\"" + said + "\" heard from a bird of sort " + sort;
    ParrotCourt court = null;
    for (int i = 0; i < Model.SAYINGS.size(); i++) {
      // an object answers 512 calls, and no more
      if (i % 60 == 0) court = testify(court("" + sort, "XA", ""), A, said);
      String bargain = Model.SAYINGS.get(i);
      pad(court, bargain);
      int slips = said.equals(bargain) ? 0 : Model.slipsOf(sort, bargain).contains(said) ? 1 : NONE;
      due("cost() of \"" + bargain + "\"", court.cost(), slips);
    }
  }

  public static void main(String[] args) {
    due("sayings", Model.SAYINGS.size(), 364);
    for (int sort = 0; sort <= 4; sort++) {
      for (String saying : Model.SAYINGS) {
        numbered(sort, saying);
        heardFrom(sort, saying);
      }
    }
    System.out.println(checked + " answers checked of all slips, " + wrong + " wrong");
    if (wrong != 0) System.exit(1);
  }
}
