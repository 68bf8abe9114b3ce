import java.nio.file.Files;
import java.nio.file.Path;
import java.util.Arrays;
import java.util.List;
import java.util.function.Function;
import java.util.stream.IntStream;

/** What the tests have in common: how an answer is looked at, and the programs that they put together. */
abstract class Checks {
  interface Call {
    long on();
  }

  static final String BOUNDS = "IndexOutOfBoundsException", ARGUMENT = "IllegalArgumentException", STATE = "IllegalStateException";
  static final int SET = GuestHall.SET, ADD = GuestHall.ADD, LOAD = GuestHall.LOAD, STORE = GuestHall.STORE,
      JUMP = GuestHall.JUMP, MAP = GuestHall.MAP, OUT = GuestHall.OUT, IN = GuestHall.IN, WAIT = GuestHall.WAIT,
      HANDLE = GuestHall.HANDLE, MASK = GuestHall.MASK, BACK = GuestHall.BACK, GIVE = GuestHall.GIVE, STOP = GuestHall.STOP;
  static final int READY = GuestHall.READY, WAITING = GuestHall.WAITING, STOPPED = GuestHall.STOPPED, DEAD = GuestHall.DEAD;
  static final int BARE = GuestHall.BARE, HELD = GuestHall.HELD, SWAPPED = GuestHall.SWAPPED;
  static final int GIVEN = GuestHall.GIVEN, BROUGHT = GuestHall.BROUGHT, COPIED = GuestHall.COPIED, TOLD = GuestHall.TOLD,
      RESTS = GuestHall.RESTS, LET = GuestHall.LET;

  /** What OF asks. */
  static final int HOW = 0, HOST = 1, NEXT = 2, CAUSE = 3, MASKED = 4, CLOCK = 5, STOLEN = 6, RAN = 7, INPUTS = 8, TO_SEND = 9, SENT = 10;

  static final int[] LOOP = {SET, 3, 1, JUMP, 3, 0};

  private static int right, wrong;
  private static String where = "";
  private static String document;

  static void due(long due, long got, String what) {
    if (got == due) {
      right++;
    } else {
      isWrong(what + " answered " + got + ", due is " + due);
    }
  }

  static void yes(boolean got, String what) {
    due(1, got ? 1 : 0, what);
  }

  static void no(boolean got, String what) {
    due(0, got ? 1 : 0, what);
  }

  static void same(String due, String got, String what) {
    if (got.equals(due)) {
      right++;
    } else {
      isWrong(what + " answered\n    " + got + "\n  due is\n    " + due);
    }
  }

  private static void isWrong(String text) {
    wrong++;
    System.out.println(where + ": " + text);
  }

  /** Runs the test that has this name. */
  static void test(String name, Runnable test) {
    where = name;
    try {
      test.run();
    } catch (RuntimeException e) {
      isWrong("a call threw " + e + " at " + Arrays.toString(e.getStackTrace()));
    }
  }

  /** Runs the test of a sentence, or of the part of one that the test is about; it is quoted from the document. */
  static void sentence(String quote, Runnable test) {
    test(quote, () -> {
      if (!documentText().contains(quote)) isWrong("the document does not say that");
      test.run();
    });
  }

  private static String documentText() {
    if (document == null) {
      try {
        document = Files.readString(Path.of("../shared/DOC.md")).replaceAll("\\s+", " ");
      } catch (java.io.IOException e) {
        throw new java.io.UncheckedIOException(e);
      }
    }
    return document;
  }

  static void report() {
    System.out.println(right + " answers are as due, " + wrong + " are not");
    if (wrong > 0) System.exit(1);
  }

  /** The call throws just this exception and changes nothing: neither what is asked nor what comes later is other by it. */
  static void refused(Hall x, String exception, Call call, String what) {
    int guests = count(x.renewed()::out);
    refused(x, exception, call, what, Checks::answersOfHall);
    for (int i = 0; i < guests; i++) {
      int guest = i;
      refused(x, exception, call, what, hall -> answersOf(hall, guest));
    }
    refused(x, exception, call, what, hall -> goOn(hall, guests));
    refused(x, exception, call, what, hall -> failAndMend(hall, guests));
  }

  private static void refused(Hall x, String exception, Call call, String what, Function<GuestHall, String> later) {
    String due = later.apply(x.renewed());
    GuestHall hall = x.renewed();
    same(exception, thrownBy(call), what);
    same(due, later.apply(hall), "what comes after " + what);
    x.renewed();
  }

  static String thrownBy(Call call) {
    try {
      return "no exception but " + call.on();
    } catch (RuntimeException e) {
      // The class itself throws, never the machine or the library below it.
      boolean isItsOwn = e.getStackTrace().length > 0 && e.getStackTrace()[0].getClassName().startsWith("GuestHall");
      return (isItsOwn ? "" : "by itself ") + e.getClass().getSimpleName();
    }
  }

  /** Each of the wrong numbers is refused. */
  static void refusedAll(Hall x, String exception, Function<Integer, Call> call, String what, int... wrongs) {
    for (int one : wrongs) refused(x, exception, call.apply(one), what + " with " + one);
  }

  /** Numbers that are no place in a row of so many: the nearest on either side, and the farthest. */
  static int[] outside(int first, int last) {
    return new int[] {Integer.MIN_VALUE, first - 1, last + 1, Integer.MAX_VALUE};
  }

  private static int count(java.util.function.IntConsumer question) {
    for (int i = 0; i < 20; i++) {
      try {
        question.accept(i);
      } catch (IndexOutOfBoundsException e) {
        return i;
      }
    }
    return 20;
  }

  private static String answersOfHall(GuestHall hall) {
    StringBuilder all = new StringBuilder().append(hall.time()).append(' ').append(hall.used(0)).append(' ').append(hall.used(1));
    all.append(" guests ").append(count(hall::out));
    int snapshots = count(hall::stored);
    for (int i = 0; i < snapshots; i++) all.append(" stored ").append(hall.stored(i));
    return all.toString();
  }

  static String answersOf(GuestHall hall, int guest) {
    StringBuilder all = new StringBuilder();
    for (int i = 0; i <= 10; i++) all.append(hall.of(guest, i)).append(' ');
    for (int i = 0; i < 4; i++) all.append(" r").append(hall.register(guest, i));
    for (int i = 0; i < 6; i++) all.append(" e").append(hall.exits(guest, i));
    for (int i = 0; i < 32; i++) all.append(i % 4 == 0 ? " w" : " ").append(hall.word(guest, i / 4, i % 4));
    for (int i = 0; i < 8; i++) all.append(" p").append(hall.pageOf(guest, i)).append(' ').append(hall.frameOf(guest, i));
    for (int i = Math.max(0, hall.out(guest) - 20); i < hall.out(guest); i++) all.append(" o").append(hall.outAt(guest, i));
    return all.append(" out ").append(hall.out(guest)).append(" held ").append(hall.held(guest)).append(' ').append(hall.isAsPlain(guest)).toString();
  }

  private static String answer(Call call) {
    try {
      return " " + call.on();
    } catch (IndexOutOfBoundsException | IllegalArgumentException | IllegalStateException e) {
      return " " + e.getClass().getSimpleName();
    }
  }

  private static String brief(GuestHall hall, int guests) {
    StringBuilder all = new StringBuilder();
    for (int guest = 0; guest < guests; guest++) {
      for (int i = 0; i <= 10; i++) all.append(' ').append(hall.of(guest, i));
      for (int i = 0; i < 4; i++) all.append(' ').append(hall.register(guest, i));
      for (int i = 0; i < 8; i++) all.append(' ').append(hall.frameOf(guest, i));
      all.append(' ').append(hall.out(guest)).append(' ').append(hall.held(guest));
    }
    return all.toString();
  }

  /** What lies hidden comes out: whose turn it is, timers, what is pending, what the last snapshot was. */
  private static String goOn(GuestHall hall, int guests) {
    StringBuilder all = new StringBuilder();
    for (int i = 0; i < 6; i++) {
      all.append(answer(() -> hall.tick(1)));
      for (int guest = 0; guest < guests; guest++) all.append(' ').append(hall.of(guest, RAN));
    }
    for (int g = 0; g < guests; g++) {
      int guest = g;
      all.append(answer(() -> hall.instruct(guest, STOP, 0, 0))).append(answer(() -> hall.pause(guest, false) ? 1 : 0));
      all.append(answer(() -> hall.scale(guest, 2))).append(answer(() -> hall.snapshot(guest)));
      all.append(answer(() -> hall.round(guest, 1))).append(answer(() -> hall.send(guest) ? 1 : 0));
    }
    for (int i = 0; i < 10; i++) {
      int snapshot = i;
      all.append(answer(() -> hall.stored(snapshot)));
    }
    all.append(answer(() -> hall.share(0))).append(answer(() -> hall.share(1))).append(answer(() -> hall.tick(60)));
    return all.append(brief(hall, guests)).toString();
  }

  /** What the other host has of the guests that are followed, and which hosts are whole. */
  private static String failAndMend(GuestHall hall, int guests) {
    StringBuilder all = new StringBuilder();
    all.append(answer(() -> hall.fail(0))).append(answer(() -> hall.tick(9))).append(brief(hall, guests));
    for (int g = 0; g < guests; g++) {
      int guest = g;
      all.append(answer(() -> hall.input(guest, 7))).append(answer(() -> hall.step(guest))).append(answer(() -> hall.stored(hall.snapshot(guest))));
    }
    all.append(answer(() -> {
      hall.mend(0);
      return 0;
    }));
    all.append(answer(() -> hall.fail(1)));
    for (int i = 0; i < guests; i++) {
      int guest = i;
      all.append(answer(() -> hall.restore(guest, guest))).append(answer(() -> hall.move(guest)));
    }
    return all.append(answer(() -> hall.tick(30))).append(brief(hall, guests)).toString();
  }

  /** A guest with a program, given as what, a, b, what, a, b and so on. */
  static int make(Hall x, int host, int weight, boolean isSealed, int... program) {
    int guest = x.guest(host, weight, isSealed);
    for (int i = 0; i < program.length; i += 3) x.instruct(guest, program[i], program[i + 1], program[i + 2]);
    return guest;
  }

  static int make(Hall x, int... program) {
    return make(x, 0, 1, false, program);
  }

  /** The instructions that put a number to an address, by the registers 0 and 1. */
  static int[] put(int number, int address) {
    return of(SET, 0, number, SET, 1, address, STORE, 0, 1);
  }

  /** Those that get the word of an address into the register 2. */
  static int[] get(int address) {
    return of(SET, 1, address, LOAD, 2, 1);
  }

  /** A program that puts the number to each of the first so many pages, then does the rest. */
  static int[] putAll(int number, int pages, int... rest) {
    int[] program = {SET, 0, number};
    for (int page = 0; page < pages; page++) program = all(program, of(SET, 1, 4 * page, STORE, 0, 1));
    return all(program, rest);
  }

  static int[] all(int[]... parts) {
    return Arrays.stream(parts).flatMapToInt(Arrays::stream).toArray();
  }

  static int[] of(int... program) {
    return program;
  }

  /** What a guest says when this program is done by itself. */
  static void says(int[] program, int... due) {
    Hall x = new Hall();
    make(x, program);
    x.tick(60);
    same(Arrays.toString(due), said(x, 0), "what is said");
    yes(x.isAsPlain(0), "isAsPlain");
  }

  static String said(Hall x, int guest) {
    return Arrays.toString(IntStream.range(0, x.out(guest)).map(place -> x.outAt(guest, place)).toArray());
  }

  /**
   * A guest that puts, reads and gives back what it is told by its inputs: 0, an address and a number to put; 1 and an
   * address to read; 2 and any number to give back the page. It is paused but while it does that.
   */
  static int worker(Hall x, int host, boolean isSealed, int pageToGive) {
    int guest = make(x, host, 1, isSealed, SET, 3, 1, IN, 2, 0, IN, 1, 0, JUMP, 2, 7, IN, 0, 0, STORE, 0, 1, JUMP, 3, 1,
        SET, 0, 9999, ADD, 2, 0, JUMP, 2, 12, LOAD, 0, 1, JUMP, 3, 1, GIVE, 0, pageToGive, JUMP, 3, 1);
    work(x, guest, 1);
    return guest;
  }

  static int worker(Hall x) {
    return worker(x, 0, false, 0);
  }

  private static void work(Hall x, int guest, int ticks, int... inputs) {
    for (int input : inputs) x.input(guest, input);
    x.pause(guest, false);
    x.tick(ticks);
    x.pause(guest, true);
  }

  static void write(Hall x, int guest, int number, int... addresses) {
    for (int address : addresses) work(x, guest, 6, 0, address, number);
  }

  static void read(Hall x, int guest, int... addresses) {
    for (int address : addresses) work(x, guest, 8, 1, address);
  }

  static void giveBack(Hall x, int guest) {
    work(x, guest, 8, 2, 0);
  }

  /** How the pages of a guest are: a letter for each, B, H or S. */
  static void pages(Hall x, int guest, String due, String when) {
    StringBuilder got = new StringBuilder();
    for (int page = 0; page < 8; page++) {
      int how = x.pageOf(guest, page);
      got.append(how == BARE ? 'B' : how == HELD ? 'H' : how == SWAPPED ? 'S' : '?');
    }
    same(due, got.toString(), "the pages of " + guest + " " + when);
  }

  /** The frames of the first pages of a guest. */
  static void frames(Hall x, int guest, String when, int... due) {
    for (int page = 0; page < due.length; page++) due(due[page], x.frameOf(guest, page), "the frame of the page " + page + " of " + guest + " " + when);
  }

  static void exits(Hall x, int guest, int given, int brought, int copied) {
    due(given, x.exits(guest, GIVEN), "GIVEN of " + guest);
    due(brought, x.exits(guest, BROUGHT), "BROUGHT of " + guest);
    due(copied, x.exits(guest, COPIED), "COPIED of " + guest);
  }

  /** What OF tells of a guest, for each of these. */
  static void dueOf(Hall x, int guest, String when, List<int[]> pairs) {
    for (int[] pair : pairs) due(pair[1], x.of(guest, pair[0]), "of(" + guest + ", " + pair[0] + ") " + when);
  }
}
