import java.util.ArrayList;
import java.util.Arrays;
import java.util.List;
import java.util.TreeSet;
import java.util.function.Consumer;
import java.util.function.ToLongFunction;

/**
 * A call that is refused changes nothing but the tape, where it is told; nor does a call that only asks.
 * Each such call is made on a meadow; then what all other calls show is held against a second meadow, made by
 * the same calls without this one. A case is named after its promise and what is wrong with the call.
 */
public final class RefusedTest {
  private static final int MIN = Integer.MIN_VALUE;
  private static final int MAX = Integer.MAX_VALUE;
  private static final int MOST_CALLS = 512;

  private enum Meadow { NEW, STACKS_ONLY, COWS_ONLY, ORDINARY, GONE_ONES, FULL }

  private enum Tape { EMPTY, TEXT, NUMBERS, WORDS, BAD_WORDS, FULL }

  /** A call, what it answers, and whether the tape is empty then. */
  private record Case(String name, long due, boolean empties, ToLongFunction<HayVotes> call) { }

  private record View(String name, Consumer<Viewer> show) { }

  /** Asks a meadow and writes down what it answered. */
  private static final class Viewer {
    private final HayVotes v;
    private final List<Long> rows = new ArrayList<>();

    Viewer(HayVotes meadow) {
      v = meadow;
    }

    void add(long answer) {
      rows.add(answer);
    }

    void stacks() {
      for (int s = 0; s < 12; s++) {
        for (int what = 0; what < 7; what++) {
          add(v.stackIs(s, what));
        }
      }
    }

    void numbers() {
      for (int what = 0; what < 9; what++) {
        add(v.count(what));
      }
      for (int k = 0; k < 5; k++) {
        add(v.votes(k));
      }
    }

    void cows() {
      for (int c = 0; c < 16; c++) {
        for (int what = 0; what < 4; what++) {
          add(v.cowIs(c, what));
        }
        for (int k = 0; k < 5; k++) {
          add(v.cowIs(c, 10 + k));
        }
      }
    }

    void eaten() {
      for (int s = 0; s < 12; s++) {
        for (int c = 0; c < 16; c++) {
          add(v.eaten(s, c));
        }
      }
    }

    void would() {
      for (int c = 0; c < 16; c++) {
        for (int s = 0; s < 12; s++) {
          add(v.would(c, s));
        }
      }
    }

    void elections() {
      for (int c = 0; c < 16; c++) {
        add(v.power(c));
        add(v.share(c, 0));
        add(v.share(c, 1));
        add(v.foreseen(c));
        add(v.chooses(c));
      }
      for (int k = 0; k < 5; k++) {
        add(v.seat(k));
        add(100 * v.cut(k, 0) + 10 * v.cut(k, 1) + v.cut(k, 2));
      }
    }

    void foresights() {
      for (int what = 0; what < 7; what++) {
        add(v.run(7, what));
      }
      for (int s = 0; s < 12; s++) {
        add(v.run(3, 10 + s));
        add(v.burns(s, 12, 30, 0));
      }
      for (int k = 0; k < 5; k++) {
        add(v.campaign(k, 2, -1));
      }
    }
  }

  private static final String TEXT = "e7+v(k<3);g2(1=1)";
  private static final String LAW = "n(s=1);e10+t+v-d/4(1=1);g99(w=99);g1+s(1=1)";

  private static final View[] VIEWS = {
    new View("STACKS, COUNTS", r -> { r.numbers(); r.stacks(); }),
    new View("COWS", r -> { r.cows(); }),
    new View("EATEN", r -> { r.eaten(); }),
    new View("would", r -> { r.would(); }),
    new View("elections", r -> { r.elections(); }),
    new View("foresights", r -> { r.foresights(); }),
    new View("KEPT stacks", r -> { r.add(r.v.undo() ? 1 : 0); r.numbers(); r.stacks(); }),
    new View("KEPT cows", r -> { r.v.undo(); r.cows(); }),
    new View("KEPT EATEN", r -> { r.v.undo(); r.eaten(); }),
    new View("days to come", r -> { r.add(r.v.draw(3)); r.add(r.v.days(2)); r.add(r.v.storm(2)); r.numbers(); r.stacks(); }),
    new View("cows to come", r -> { r.add(r.v.draw(20)); r.cows(); }),
    new View("the tape's length", r -> { r.add(r.v.count(4)); r.add(r.v.feed(1, 2, 3, 4, 5)); r.add(r.v.count(4)); }),
    new View("the tape as a law", r -> { r.add(r.v.law(TEXT.length())); r.would(); }),
    new View("the tape's end as a law", r -> { r.add(r.v.law(200)); r.add(r.v.count(4)); }),
    new View("the tape as numbers", r -> { r.add(r.v.check(0, 5)); r.add(r.v.count(4)); }),
    new View("the tape as words", r -> { r.add(r.v.salted(6, 0)); r.add(r.v.count(4)); })
  };

  private static String at = "";
  private static int wrong = 0;
  private static int cases = 0;

  public static void main(String[] args) {
    TreeSet<Integer> promises = new TreeSet<>();
    for (Meadow meadow : Meadow.values()) {
      for (Tape tape : Tape.values()) {
        List<Case> all = tape == Tape.NUMBERS ? ofAllCalls(meadow) : new ArrayList<>();
        ofTheTape(all, meadow, tape);
        for (Case one : all) {
          promises.add(Integer.parseInt(one.name.substring(1, 3)));
          at = one.name + ", " + meadow + " with tape " + tape;
          holds(one, meadow, tape);
        }
      }
    }
    for (int promise = 2; promise <= 30; promise++) {
      must(promises.contains(promise), "promise " + promise + " has no case");
    }
    System.out.println(wrong == 0 ? cases + " refused calls and askings, all changed nothing" : wrong + " are not as due");
    if (wrong != 0) {
      System.exit(1);
    }
  }

  private static void must(boolean right, String text) {
    if (!right) {
      wrong++;
      System.out.println(text);
    }
  }

  private static void holds(Case one, Meadow meadow, Tape tape) {
    cases++;
    for (View view : VIEWS) {
      HayVotes tried = made(meadow, tape);
      long answer = one.call.applyAsLong(tried);
      must(answer == one.due, at + " answered " + answer + ", due is " + one.due);
      Viewer after = new Viewer(tried);
      view.show.accept(after);
      Viewer before = new Viewer(made(meadow, one.empties ? Tape.EMPTY : tape));
      view.show.accept(before);
      must(after.rows.equals(before.rows), at + " changed: " + view.name);
      must(after.rows.size() < MOST_CALLS - 150, at + ": more calls than an object is used for");
    }
  }

  // ---- meadows and tapes

  private static void feed(HayVotes v, int... bytes) {
    for (int from = 0; from < bytes.length; from += 20) {
      int[] m = new int[5];
      for (int i = 0; i < 20; i++) {
        m[i / 4] = m[i / 4] << 8 | (from + i < bytes.length ? bytes[from + i] & 255 : ' ');
      }
      v.feed(m[0], m[1], m[2], m[3], m[4]);
    }
  }

  private static void read(HayVotes v, String law) {
    feed(v, law.chars().toArray());
    v.law(law.length());
  }

  private static int stacksIn(Meadow meadow) {
    return switch (meadow) {
      case NEW, COWS_ONLY -> 0;
      case STACKS_ONLY, ORDINARY -> 3;
      case GONE_ONES -> 6;
      case FULL -> 12;
    };
  }

  private static int cowsIn(Meadow meadow) {
    return switch (meadow) {
      case NEW, STACKS_ONLY -> 0;
      case COWS_ONLY, ORDINARY, GONE_ONES -> 3;
      case FULL -> 16;
    };
  }

  /** Those with DAMP 99 burn on the sixth DAY: number 1; and 5 is gone into 3 by a storm. */
  private static boolean isGone(Meadow meadow, int stack) {
    return (meadow == Meadow.GONE_ONES || meadow == Meadow.FULL) && (stack == 1 || stack == 5);
  }

  private static boolean isKept(Meadow meadow) {
    return meadow == Meadow.ORDINARY || meadow == Meadow.FULL;
  }

  private static HayVotes made(Meadow meadow, Tape tape) {
    HayVotes v = new HayVotes();
    if (meadow != Meadow.NEW) {
      read(v, LAW);
    }
    for (int s = 0; s < stacksIn(meadow); s++) {
      boolean beside = s == 5;
      v.stack(beside ? 7 : s % 4 * 2, beside ? 0 : s / 4 * 3, beside ? 3 : s % 5, 60 + s, s, s == 1 && isGone(meadow, 1) ? 99 : s);
    }
    for (int c = 0; c < cowsIn(meadow); c++) {
      v.cow(c % 4 * 3, c / 4 * 3, c % 4 == 1, 1 + c % 3);
      v.taste(c, c % 5, 9 - c % 4);
    }
    if (meadow == Meadow.GONE_ONES || meadow == Meadow.FULL) {
      v.days(6);
      v.storm(1);
    }
    if (isKept(meadow)) {
      v.salt(2, 8);
      v.seed(4321);
      v.days(1);
      v.keep();
      v.draw(2);
    }
    fillTape(v, tape);
    return v;
  }

  private static void fillTape(HayVotes v, Tape tape) {
    switch (tape) {
      case TEXT -> feed(v, TEXT.chars().toArray());
      case NUMBERS -> v.feed(Math.max(0, v.eaten(0, 0)), Math.max(0, v.eaten(0, 1)), Math.max(0, v.eaten(0, 2)), Math.max(0, v.eaten(0, 3)), 0);
      case WORDS -> feed(v, 0, 0, 0, 0, 0, 1, 0, 0, 2, 0, 255, 3, 0, 255, 4, 0, 255, 5);
      case BAD_WORDS -> feed(v, 0, 255, 0, 0, 255, 10, 0, 254, 0, 16, 255, 0, 0, 255, 0, 0, 255, 0);
      case FULL -> feed(v, new int[220]);
      default -> { }
    }
  }

  private static int sizeOf(Tape tape) {
    return tape == Tape.EMPTY ? 0 : tape == Tape.FULL ? 220 : 20;
  }

  // ---- the cases

  private static void add(List<Case> all, String name, long due, ToLongFunction<HayVotes> call) {
    all.add(new Case(name, due, false, call));
  }

  private static List<Case> ofAllCalls(Meadow meadow) {
    List<Case> all = new ArrayList<>();
    ofStack(all, meadow);
    ofCow(all, meadow);
    ofTasteAndSalt(all, meadow);
    ofEating(all, meadow);
    ofShown(all, meadow);
    ofCampaign(all, meadow);
    ofElections(all, meadow);
    ofBurns(all, meadow);
    ofDrawn(all, meadow);
    ofAskings(all);
    return all;
  }

  /** Numbers that no stack or cow has, if there are so many. */
  private static int[] wrongNumbers(int count) {
    return new int[] {MIN, -1, count, Math.max(count, 16), MAX};
  }

  private static int[] beyond(int least, int most) {
    return new int[] {MIN, least - 1, most + 1, MAX};
  }

  private static void ofStack(List<Case> all, Meadow meadow) {
    int[] right = {9, 9, 2, 50, 20, 30};
    int[] most = {9, 9, 4, 999, 99, 99};
    for (int argument = 0; argument < 6; argument++) {
      for (int n : beyond(0, most[argument])) {
        int[] a = right.clone();
        a[argument] = n;
        add(all, "p02_stack_" + Arrays.toString(a), -1, v -> v.stack(a[0], a[1], a[2], a[3], a[4], a[5]));
      }
    }
    if (meadow == Meadow.FULL) {
      add(all, "p02_stack_a13th", -1, v -> v.stack(9, 9, 2, 50, 20, 30));
      add(all, "p02_stack_a13thOnATakenSquare", -1, v -> v.stack(0, 0, 2, 50, 20, 30));
    } else if (stacksIn(meadow) > 0) {
      add(all, "p02_stack_takenSquare", -2, v -> v.stack(0, 0, 2, 50, 20, 30));
      add(all, "p02_stack_anotherTakenSquare", -2, v -> v.stack(4, 0, 0, 0, 0, 0));
    }
  }

  private static void ofCow(List<Case> all, Meadow meadow) {
    for (int n : beyond(0, 9)) {
      add(all, "p03_cow_x" + n, -1, v -> v.cow(n, 0, true, 5));
      add(all, "p03_cow_y" + n, -1, v -> v.cow(0, n, true, 5));
    }
    for (int n : beyond(1, 9)) {
      add(all, "p03_cow_hunger" + n, -1, v -> v.cow(0, 0, true, n));
    }
    if (meadow == Meadow.FULL) {
      add(all, "p03_cow_a17th", -1, v -> v.cow(0, 0, true, 5));
    }
  }

  private static void ofTasteAndSalt(List<Case> all, Meadow meadow) {
    int stacks = stacksIn(meadow);
    int cows = cowsIn(meadow);
    for (int c : wrongNumbers(cows)) {
      add(all, "p04_taste_noCow" + c, 0, v -> v.taste(c, 0, 5) ? 1 : 0);
    }
    for (int k : beyond(0, 4)) {
      add(all, "p04_taste_colour" + k, 0, v -> v.taste(0, k, 5) ? 1 : 0);
    }
    for (int n : beyond(-9, 9)) {
      add(all, "p04_taste_n" + n, 0, v -> v.taste(0, 0, n) ? 1 : 0);
    }
    for (int s : new int[] {MIN, -2, stacks, 12, MAX}) {
      add(all, "p05_salt_noStack" + s, 0, v -> v.salt(s, 5) ? 1 : 0);
    }
    for (int day : beyond(0, 999)) {
      add(all, "p05_salt_day" + day, 0, v -> v.salt(0, day) ? 1 : 0);
    }
    for (int s = 0; s < stacks; s++) {
      int gone = s;
      if (isGone(meadow, s)) {
        add(all, "p05_salt_gone" + s, 0, v -> v.salt(gone, 5) ? 1 : 0);
      }
    }
  }

  private static void ofEating(List<Case> all, Meadow meadow) {
    int stacks = stacksIn(meadow);
    for (int c : wrongNumbers(cowsIn(meadow))) {
      add(all, "p08_would_noCow" + c, -1, v -> v.would(c, 0));
      add(all, "p09_chooses_noCow" + c, -1, v -> v.chooses(c));
    }
    for (int s : wrongNumbers(stacks)) {
      add(all, "p08_would_noStack" + s, -1, v -> v.would(0, s));
    }
    for (int s = 0; s < stacks; s++) {
      int gone = s;
      if (isGone(meadow, s)) {
        add(all, "p08_would_gone" + s, -1, v -> v.would(0, gone));
      }
    }
    for (int n : beyond(1, 20)) {
      add(all, "p10_days_n" + n, -1, v -> v.days(n));
      add(all, "p11_run_n" + n, -1, v -> v.run(n, 0));
    }
    for (int what : new int[] {MIN, -1, 7, 9, 10 + stacks, 22, MAX}) {
      add(all, "p11_run_what" + what, -1, v -> v.run(1, what));
    }
  }

  private static void ofShown(List<Case> all, Meadow meadow) {
    int stacks = stacksIn(meadow);
    int cows = cowsIn(meadow);
    for (int s : wrongNumbers(stacks)) {
      add(all, "p12_stackIs_noStack" + s, -1, v -> v.stackIs(s, 0));
      if (s != -1) {
        add(all, "p14_eaten_noStack" + s, -2, v -> v.eaten(s, -1));
      }
    }
    for (int c : wrongNumbers(cows)) {
      add(all, "p13_cowIs_noCow" + c, -1000, v -> v.cowIs(c, 0));
      if (c != -1) {
        add(all, "p14_eaten_noCow" + c, -2, v -> v.eaten(-1, c));
      }
    }
    for (int what : beyond(0, 6)) {
      add(all, "p12_stackIs_what" + what, -1, v -> v.stackIs(0, what));
    }
    for (int what : new int[] {MIN, -1, 4, 9, 15, MAX}) {
      add(all, "p13_cowIs_what" + what, -1000, v -> v.cowIs(0, what));
    }
    for (int k : beyond(0, 4)) {
      add(all, "p15_votes_colour" + k, -1, v -> v.votes(k));
    }
    for (int what : beyond(0, 8)) {
      add(all, "p30_count_what" + what, -1, v -> v.count(what));
    }
  }

  private static void ofCampaign(List<Case> all, Meadow meadow) {
    for (int k : beyond(0, 4)) {
      add(all, "p16_campaign_colour" + k, -3, v -> v.campaign(k, 1, 4));
    }
    for (int n : beyond(1, 6)) {
      add(all, "p16_campaign_n" + n, -3, v -> v.campaign(0, n, 4));
    }
    for (int what : beyond(-1, 4)) {
      add(all, "p16_campaign_what" + what, -3, v -> v.campaign(0, 1, what));
    }
    add(all, "p16_campaign_noSuchStack", -3, v -> v.campaign(4, 1, 3));
    if (cowsIn(meadow) == 0 || stacksIn(meadow) == 0) {
      add(all, "p16_campaign_noneWins", -2, v -> v.campaign(0, 6, 4));
    }
  }

  private static void ofElections(List<Case> all, Meadow meadow) {
    for (int c : wrongNumbers(cowsIn(meadow))) {
      add(all, "p17_power_noCow" + c, -1, v -> v.power(c));
      add(all, "p18_share_noCow" + c, -1, v -> v.share(c, 0));
      add(all, "p21_foreseen_noCow" + c, -1, v -> v.foreseen(c));
    }
    for (int what : beyond(0, 1)) {
      add(all, "p18_share_what" + what, -1, v -> v.share(0, what));
    }
    for (int district : beyond(0, 3)) {
      add(all, "p19_seat_district" + district, -1, v -> v.seat(district));
    }
    for (int k : beyond(0, 4)) {
      add(all, "p20_cut_colour" + k, -1, v -> v.cut(k, 0));
    }
    for (int what : beyond(0, 2)) {
      add(all, "p20_cut_what" + what, -1, v -> v.cut(0, what));
    }
  }

  private static void ofBurns(List<Case> all, Meadow meadow) {
    int stacks = stacksIn(meadow);
    for (int s : wrongNumbers(stacks)) {
      add(all, "p22_burns_noStack" + s, -1, v -> v.burns(s, 1, 1, 0));
    }
    for (int s = 0; s < stacks; s++) {
      int gone = s;
      if (isGone(meadow, s)) {
        add(all, "p22_burns_gone" + s, -1, v -> v.burns(gone, 1, 1, 0));
      }
    }
    for (int n : beyond(1, 12)) {
      add(all, "p22_burns_n" + n, -1, v -> v.burns(0, n, 1, 0));
    }
    for (int k : beyond(1, 30)) {
      add(all, "p22_burns_k" + k, -1, v -> v.burns(0, 1, k, 0));
    }
    for (int what : beyond(0, 1)) {
      add(all, "p22_burns_what" + what, -1, v -> v.burns(0, 1, 1, what));
    }
  }

  private static void ofDrawn(List<Case> all, Meadow meadow) {
    for (int way : beyond(1, 9)) {
      add(all, "p24_storm_way" + way, -1, v -> v.storm(way));
    }
    for (int x : beyond(0, 65535)) {
      add(all, "p25_seed_x" + x, 0, v -> v.seed(x) ? 1 : 0);
    }
    for (int n : beyond(1, 20)) {
      add(all, "p26_draw_n" + n, -1, v -> v.draw(n));
    }
    if (isKept(meadow)) {
      add(all, "p27_keep_whatWasKept", standing(meadow), v -> {
        v.undo();
        int answer = v.keep();
        v.draw(2);
        return answer;
      });
    } else {
      add(all, "p28_undo_noneWasKept", 0, v -> v.undo() ? 1 : 0);
    }
  }

  private static int standing(Meadow meadow) {
    int standing = 0;
    for (int s = 0; s < stacksIn(meadow); s++) {
      standing += isGone(meadow, s) ? 0 : 1;
    }
    return standing;
  }

  /** What is answered is other tests' matter: here it counts only that it was asked. */
  private static int asked(long answer) {
    return 0;
  }

  /** Calls that ask and are answered: they show something, and change nothing. */
  private static void ofAskings(List<Case> all) {
    add(all, "p08_would_asked", 0, v -> asked(v.would(0, 0)));
    add(all, "p09_chooses_asked", 0, v -> asked(v.chooses(0)));
    for (int what : new int[] {0, 4, 5, 6, 10}) {
      add(all, "p11_run_asked" + what, 0, v -> asked(v.run(20, what)));
    }
    for (int what = -1; what < 4; what++) {
      int place = what;
      add(all, "p16_campaign_asked" + what, 0, v -> asked(v.campaign(0, 6, place)));
    }
    add(all, "p17_power_asked", 0, v -> asked(v.power(0)));
    add(all, "p18_share_asked", 0, v -> asked(v.share(0, 1)));
    add(all, "p19_seat_asked", 0, v -> asked(v.seat(0)));
    add(all, "p20_cut_asked", 0, v -> asked(v.cut(0, 2)));
    add(all, "p21_foreseen_asked", 0, v -> asked(v.foreseen(0)));
    add(all, "p22_burns_asked", 0, v -> asked(v.burns(0, 12, 30, 1)));
    add(all, "p24_storm_nothingJoins", 0, v -> v.storm(1));
  }

  private static void ofTheTape(List<Case> all, Meadow meadow, Tape tape) {
    int size = sizeOf(tape);
    if (tape == Tape.FULL) {
      add(all, "p06_feed_moreThan220", -1, v -> v.feed(1, 2, 3, 4, 5));
    }
    for (int n : new int[] {MIN, -1, 0, size + 1, 201, MAX}) {
      if (n <= 0 || n > Math.min(200, size)) {
        add(all, "p07_law_n" + n, -1, v -> v.law(n));
      }
    }
    if (tape == Tape.TEXT) {
      all.add(new Case("p07_law_theEndIsAFault", -1008, true, v -> v.law(8)));
      all.add(new Case("p07_law_faultBehindAClause", -1010, true, v -> v.law(10)));
      all.add(new Case("p07_law_blankBehindTheText", -1017, true, v -> v.law(20)));
    } else if (tape != Tape.EMPTY) {
      all.add(new Case("p07_law_aByteOf0", -1000, true, v -> v.law(20)));
    }
    ofWords(all, meadow, tape, size);
    ofCheck(all, meadow, size);
  }

  private static void ofWords(List<Case> all, Meadow meadow, Tape tape, int size) {
    for (int n : new int[] {MIN, -1, 0, size / 3 + 1, 31, MAX}) {
      if (n <= 0 || n > Math.min(30, size / 3)) {
        add(all, "p23_salted_n" + n, -3, v -> v.salted(n, 0));
      }
    }
    for (int what : beyond(0, 2)) {
      add(all, "p23_salted_what" + what, -3, v -> v.salted(1, what));
    }
    if (tape == Tape.BAD_WORDS) {
      all.add(new Case("p23_salted_badWords", -2, true, v -> v.salted(6, 0)));
      all.add(new Case("p23_salted_aBadDay", -2, true, v -> v.salted(2, 1)));
    }
    if (tape == Tape.WORDS && (cowsIn(meadow) == 0 || stacksIn(meadow) == 0)) {
      all.add(new Case("p23_salted_noSuchCowOrStack", -2, true, v -> v.salted(1, 2)));
    }
    if (tape == Tape.WORDS && cowsIn(meadow) > 0 && stacksIn(meadow) > 0) {
      all.add(new Case("p23_salted_asked", 0, true, v -> asked(v.salted(6, 0))));
    }
  }

  private static void ofCheck(List<Case> all, Meadow meadow, int size) {
    int stacks = stacksIn(meadow);
    for (int s : wrongNumbers(stacks)) {
      add(all, "p29_check_noStack" + s, -2, v -> v.check(s, 0));
    }
    for (int n : new int[] {MIN, -1, size / 4 + 1, 17, MAX}) {
      if (n < 0 || n > Math.min(16, size / 4)) {
        add(all, "p29_check_n" + n, -2, v -> v.check(0, n));
      }
    }
    if (stacks > 0) {
      all.add(new Case("p29_check_asked", -1, true, v -> v.check(0, 0)));
    }
  }
}
