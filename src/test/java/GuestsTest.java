import java.util.List;

/** The sentences of "What it is", "Terms" and "Guests", and of the promises 1 and 6, that name an edge, each with a test of its own. */
public final class GuestsTest extends Checks {
  public static void main(String[] args) {
    sentence("An object is used for at most 512 calls after it has been made", GuestsTest::allCalls);
    sentence("Makes a hall without guests; both hosts are whole, the time is 0.", GuestsTest::newHall);
    sentence("Questions change nothing.", GuestsTest::questions);
    sentence("A guest cannot tell any of this, but by its clock", GuestsTest::cannotTell);
    sentence("Guests are numbered from 0, at most 5.", GuestsTest::fiveGuests);
    sentence("A guest has a program of at most 24 instructions, numbered from 0", GuestsTest::fullProgram);
    sentence("the registers 0 to 3, 0 at first", GuestsTest::registers);
    sentence("the number of the next instruction, 0 at first", GuestsTest::nextAtFirst);
    sentence("a handler, none at first", GuestsTest::noHandlerAtFirst);
    sentence("a saved number, 0, a cause, 0, and is masked or not, at first not", GuestsTest::savedCauseAndMaskAtFirst);
    sentence("It has the pages 0 to 7 of 4 words, 0 at first", GuestsTest::wordsAtFirst);
    sentence("a table that tells for the views 0 to 7 a page, or none, at first the page of its number for each", GuestsTest::viewsAtFirst);
    sentence("Numbers in registers and words are 0 to 9999.", GuestsTest::numbers);
    sentence("An address a, 0 to 31, is the word a by 4's remainder of the view a divided by 4.", GuestsTest::addresses);
    sentence("SET: the register a becomes b.", GuestsTest::set);
    sentence("ADD: the register a becomes the remainder of both registers, added, by 10000.", GuestsTest::sums);
    sentence("LOAD: the register a becomes the word at the address in the register b. STORE: the word at the address in the register b becomes the register a.", GuestsTest::loadAndStore);
    sentence("JUMP: the next instruction is b, if the register a is not 0.", GuestsTest::jumps);
    sentence("MAP: the view a becomes the page b.", GuestsTest::maps);
    sentence("the register a goes to the port b: 0 it is said", GuestsTest::saying);
    sentence("1 the timer is set to go off so many ticks later", GuestsTest::timerLater);
    sentence("in place of one that was set", GuestsTest::timerInPlace);
    sentence("or, with 0, not at all (an interrupt that is pending stays so)", GuestsTest::timerOff);
    sentence("0 the first of the inputs, which is taken, or 0 without any", GuestsTest::inputs);
    sentence("Throws `IllegalStateException` if it has 20", GuestsTest::twentyInputs);
    sentence("1 the clock; 2 the cause", GuestsTest::clockAndCause);
    sentence("WAIT: it is WAITING until an interrupt is pending (not at all, if one is).", GuestsTest::waits);
    sentence("HANDLE: the handler becomes the instruction b.", GuestsTest::handles);
    sentence("MASK: it is masked, if b is 1, and not, if it is 0.", GuestsTest::masks);
    sentence("BACK: the next instruction is the saved one, and it is not masked.", GuestsTest::goesBack);
    sentence("GIVE: the page b is given back: its words are 0.", GuestsTest::gives);
    sentence("STOP: it is STOPPED; the next instruction is the following one then, too.", GuestsTest::stops);
    sentence("when it is behind the last one, the guest is STOPPED instead of doing it", GuestsTest::behindTheLast);
    sentence("A fault: an address above 31", GuestsTest::addressAbove);
    sentence("or in a view without a page (MAP with b 8 makes it so)", GuestsTest::viewWithoutPage);
    sentence("The instruction is not done; the guest is DEAD, if it has no handler", GuestsTest::deadWithoutHandler);
    sentence("or is masked (its pages stay as they are)", GuestsTest::deadWhileMasked);
    sentence("otherwise it goes to the handler, with the cause 1: that is, the number of the instruction is saved, the next one is the handler, and it is masked", GuestsTest::faultHandled);
    sentence("with the cause 2 for the timer, 3 for one that was sent, and the number of the next instruction being saved", GuestsTest::letIn);
    report();
  }

  static void allCalls() {
    GuestHall x = new GuestHall();
    x.guest(0, 1, false);
    x.instruct(0, SET, 0, 1);
    x.instruct(0, ADD, 1, 0);
    x.instruct(0, JUMP, 0, 1);
    for (int call = 5; call <= 510; call++) due(call - 4, x.tick(1), "tick");
    due(253, x.register(0, 1), "the call 511");
    yes(x.isAsPlain(0), "the call 512");
  }

  static void newHall() {
    Hall x = new Hall();
    due(0, x.time(), "the time");
    for (int host = 0; host < 2; host++) {
      int one = host;
      due(0, x.used(host), "used");
      due(0, x.share(host), "share");
      refused(x, STATE, () -> {
        x.mend(one);
        return 0;
      }, "mend of a host that is whole");
    }
    refusedAll(x, BOUNDS, guest -> () -> x.of(guest, HOW), "of no guest", Integer.MIN_VALUE, -1, 0, 1, Integer.MAX_VALUE);
    refusedAll(x, BOUNDS, snapshot -> () -> x.stored(snapshot), "stored of no snapshot", Integer.MIN_VALUE, -1, 0, 1, Integer.MAX_VALUE);
    due(100, x.tick(100), "tick without guests");
    due(0, new Hall().time(), "the time of another hall");
    due(0, x.fail(0) + x.fail(1), "fail without guests");
    due(101, x.tick(1), "tick without hosts");
  }

  /** All questions, and all with which something is refused. */
  private static void askAll(GuestHall hall) {
    for (int guest = 0; guest < 2; guest++) answersOf(hall, guest);
    hall.time();
    hall.used(0);
    hall.used(1);
    for (Call call : List.<Call>of(() -> hall.of(2, 0), () -> hall.of(0, 11), () -> hall.register(0, 4), () -> hall.word(0, 8, 0), () -> hall.pageOf(0, 8),
        () -> hall.frameOf(0, 8), () -> hall.used(2), () -> hall.exits(0, 6), () -> hall.out(2), () -> hall.outAt(0, 999), () -> hall.held(2),
        () -> hall.stored(9), () -> hall.isAsPlain(2) ? 1 : 0)) thrownBy(call);
  }

  static void questions() {
    for (int calls = 0; calls <= 14; calls++) {
      String due = answersWithQuestion(calls, false);
      same(due, answersWithQuestion(calls, true), "what comes when all is asked ahead of the call " + calls);
    }
  }

  private static String answersWithQuestion(int ahead, boolean isAsked) {
    GuestHall x = new GuestHall();
    StringBuilder all = new StringBuilder();
    List<Call> calls = List.of(() -> x.guest(0, 2, false), () -> x.guest(0, 1, true), () -> x.instruct(1, IN, 0, 1), () -> x.instruct(0, OUT, 0, 0), () -> x.instruct(0, STORE, 0, 0),
        () -> x.instruct(0, WAIT, 0, 0), () -> x.tick(3), () -> x.snapshot(0), () -> x.follow(0, true) ? 1 : 0, () -> x.send(0) ? 1 : 0,
        () -> x.input(0, 8), () -> x.move(0), () -> x.fail(0), () -> x.tick(2), () -> x.of(0, RAN));
    for (int i = 0; i < calls.size(); i++) {
      if (isAsked && i == ahead && i >= 2) askAll(x);
      all.append(' ').append(calls.get(i).on());
    }
    return all.append(answersOf(x, 0)).append(answersOf(x, 1)).toString();
  }

  /** Two guests do the same, though one is shared with, swapped out, moved, followed and failed under. */
  static void cannotTell() {
    int[] program = all(of(IN, 2, 0, OUT, 2, 0), put(7, 5), put(7, 9), of(LOAD, 0, 1, OUT, 0, 0, SET, 1, 5, ADD, 2, 1, STORE, 2, 1, LOAD, 0, 1, OUT, 0, 0, SET, 3, 1, JUMP, 3, 0));
    Hall alone = new Hall(), x = new Hall();
    make(alone, program);
    make(x, program);
    make(x, putAll(7, 8, LOOP));
    make(x, putAll(7, 8, LOOP));
    for (int i = 0; i < 20; i++) {
      alone.input(0, i);
      x.input(0, i);
    }
    alone.tick(100);
    for (int i = 0; i < 6; i++) {
      x.tick(22);
      x.share(i % 2);
      x.move(0);
      x.round(0, 1);
      x.tick(7);
      x.land(0, true);
    }
    x.follow(0, true);
    x.tick(60);
    x.fail(0);
    x.tick(40);
    due(18, alone.out(0), "what it says by itself");
    yes(x.out(0) >= 18, "it says as much");
    for (int i = 0; i < 18; i++) due(alone.outAt(0, i), x.outAt(0, i), "the number " + i);
  }

  static void fiveGuests() {
    Hall x = new Hall();
    for (int i = 0; i < 5; i++) {
      int guest = i;
      refused(x, BOUNDS, () -> x.of(guest, HOW), "of(" + i + ") ahead of it");
      due(i, x.guest(i % 2, 1 + i % 4, false), "guest");
      due(i % 2, x.of(i, HOST), "its host");
    }
    refusedAll(x, BOUNDS, guest -> () -> x.of(guest, HOW), "of", outside(0, 4));
    refused(x, STATE, () -> x.guest(0, 1, false), "a sixth guest");
    x.fail(0);
    due(DEAD, x.of(4, HOW), "the fifth guest");
    refused(x, STATE, () -> x.guest(1, 1, false), "a sixth guest, where others are DEAD");
    x.mend(0);
    refused(x, STATE, () -> x.guest(0, 1, false), "a sixth guest on the one that was mended");
  }

  static void fullProgram() {
    Hall x = new Hall();
    x.guest(0, 1, false);
    for (int i = 0; i < 23; i++) due(i, x.instruct(0, ADD, 0, 1), "instruct");
    due(23, x.instruct(0, SET, 2, 8), "the last instruction");
    refused(x, STATE, () -> x.instruct(0, ADD, 0, 0), "a 25th instruction");
    x.tick(23);
    due(23, x.of(0, NEXT), "next");
    due(0, x.register(0, 2), "ahead of the last instruction");
    x.tick(1);
    due(8, x.register(0, 2), "behind it");
    due(READY, x.of(0, HOW), "behind it");
    due(24, x.of(0, NEXT), "behind it");
    x.tick(1);
    due(STOPPED, x.of(0, HOW), "a tick later");
    due(24, x.of(0, NEXT), "a tick later");
    // Each guest has 24 of its own.
    x.guest(0, 1, false);
    due(0, x.instruct(1, ADD, 0, 1), "another's first");
  }

  static void registers() {
    Hall x = new Hall();
    make(x, SET, 0, 11, SET, 1, 12, SET, 2, 13, SET, 3, 14);
    for (int i = 0; i < 4; i++) due(0, x.register(0, i), "at first");
    for (int set = 0; set < 4; set++) {
      x.tick(1);
      for (int i = 0; i < 4; i++) due(i <= set ? 11 + i : 0, x.register(0, i), "register " + i + " behind SET of " + set);
    }
    refusedAll(x, BOUNDS, register -> () -> x.register(0, register), "register", outside(0, 3));
  }

  static void nextAtFirst() {
    Hall x = new Hall();
    make(x, SET, 0, 1, SET, 0, 2);
    due(0, x.of(0, NEXT), "next");
    x.tick(1);
    due(1, x.register(0, 0), "the instruction 0 is the first");
    due(1, x.of(0, NEXT), "next");
  }

  static void noHandlerAtFirst() {
    Hall x = new Hall();
    make(x, SET, 0, 1, SET, 0, 32, SET, 1, 1, LOAD, 1, 0);
    x.send(0);
    x.tick(3);
    due(3, x.of(0, NEXT), "one that is sent is not let in");
    due(0, x.exits(0, LET), "one that is sent is not let in");
    x.tick(1);
    due(DEAD, x.of(0, HOW), "a fault");
  }

  static void savedCauseAndMaskAtFirst() {
    Hall x = new Hall();
    make(x, SET, 2, 5, IN, 2, 2, BACK, 0, 0);
    due(0, x.of(0, CAUSE), "cause");
    due(0, x.of(0, MASKED), "masked");
    x.tick(2);
    due(0, x.register(0, 2), "the cause that it gets");
    x.tick(1);
    due(0, x.of(0, NEXT), "behind BACK");
    // Not masked: the first one that is sent is let in, though MASK was never done.
    Hall y = new Hall();
    make(y, HANDLE, 0, 1, ADD, 0, 0);
    y.send(0);
    y.tick(2);
    due(1, y.exits(0, LET), "let in");
  }

  static void wordsAtFirst() {
    Hall x = new Hall();
    make(x, SET, 2, 1, LOAD, 3, 1, ADD, 0, 3, ADD, 1, 2, JUMP, 2, 1);
    for (int page = 0; page < 8; page++) {
      for (int place = 0; place < 4; place++) due(0, x.word(0, page, place), "word");
      due(BARE, x.pageOf(0, page), "page");
    }
    refusedAll(x, BOUNDS, page -> () -> x.word(0, page, 0), "word of a page", outside(0, 7));
    refusedAll(x, BOUNDS, place -> () -> x.word(0, 0, place), "word of a place", outside(0, 3));
    refusedAll(x, BOUNDS, place -> () -> x.word(0, 7, place), "word of a place", outside(0, 3));
    x.tick(100);
    x.tick(29);
    due(32, x.register(0, 1), "all words were read");
    due(0, x.register(0, 0), "their sum");
    due(8, x.exits(0, GIVEN), "pages that got frames");
  }

  static void viewsAtFirst() {
    Hall x = new Hall();
    int[] program = {SET, 2, 4, SET, 0, 1, STORE, 0, 1, ADD, 1, 2, ADD, 0, 2, JUMP, 2, 2};
    make(x, program);
    for (int view = 0; view < 8; view++) {
      x.tick(view == 0 ? 3 : 4);
      due(1 + 4 * view, x.word(0, view, 0), "the word that was put by the view " + view);
      due(view + 1, x.exits(0, GIVEN), "pages that got frames");
      due(HELD, x.pageOf(0, view), "the page " + view);
    }
  }

  static void numbers() {
    Hall x = new Hall();
    make(x, SET, 0, 9999, SET, 0, 0, SET, 3, 9999, STORE, 3, 0, IN, 2, 0, OUT, 2, 0, IN, 2, 0, OUT, 2, 0);
    refusedAll(x, ARGUMENT, b -> () -> x.instruct(0, SET, 0, b), "SET", outside(0, 9999));
    refusedAll(x, ARGUMENT, value -> () -> x.input(0, value), "input", outside(0, 9999));
    x.input(0, 9999);
    x.input(0, 0);
    x.tick(1);
    due(9999, x.register(0, 0), "the highest");
    x.tick(1);
    due(0, x.register(0, 0), "the lowest");
    x.tick(6);
    due(9999, x.word(0, 0, 0), "the highest in a word");
    same("[9999, 0]", said(x, 0), "what is said");
  }

  /** Each of the 32 addresses gets its number and 1, is read again, and is said; the address 32 is none. */
  static void addresses() {
    Hall x = new Hall();
    make(x, SET, 2, 1, ADD, 0, 2, STORE, 0, 1, LOAD, 3, 1, OUT, 3, 0, ADD, 1, 2, JUMP, 2, 1);
    x.tick(100);
    x.tick(93);
    for (int a = 0; a < 32; a++) {
      due(a + 1, x.word(0, a / 4, a % 4), "the word of the address " + a);
      due(a + 1, x.outAt(0, a), "what is read there");
    }
    due(32, x.out(0), "how many there are");
    x.tick(1);
    due(READY, x.of(0, HOW), "ahead of the address 32");
    x.tick(1);
    due(DEAD, x.of(0, HOW), "at the address 32");
    due(32, x.register(0, 1), "the address");
    yes(x.isAsPlain(0), "isAsPlain");
  }

  static void set() {
    says(of(SET, 3, 9999, OUT, 3, 0, SET, 3, 0, OUT, 3, 0, OUT, 0, 0), 9999, 0, 0);
  }

  private static void sum(int one, int other, int due) {
    says(of(SET, 0, one, SET, 1, other, ADD, 0, 1, OUT, 0, 0, OUT, 1, 0), due, other);
    says(of(SET, 3, one, SET, 2, other, ADD, 2, 3, OUT, 3, 0, OUT, 2, 0), one, due);
  }

  static void sums() {
    sum(0, 0, 0);
    sum(9999, 0, 9999);
    sum(0, 9999, 9999);
    sum(9998, 1, 9999);
    sum(9999, 1, 0);
    sum(1, 9999, 0);
    sum(9999, 2, 1);
    sum(5000, 4999, 9999);
    sum(5000, 5000, 0);
    sum(9999, 9999, 9998);
    says(of(SET, 0, 4999, ADD, 0, 0, OUT, 0, 0, SET, 0, 5000, ADD, 0, 0, OUT, 0, 0, SET, 0, 9999, ADD, 0, 0, OUT, 0, 0), 9998, 0, 9998);
    Hall x = new Hall();
    make(x, SET, 1, 1, SET, 0, 9990, ADD, 0, 1, OUT, 0, 0, JUMP, 1, 2);
    x.tick(62);
    for (int i = 0; i < 20; i++) due(i < 9 ? 9991 + i : i - 9, x.outAt(0, i), "over the edge");
  }

  static void loadAndStore() {
    says(all(put(9999, 0), put(1, 3), put(2, 31), get(0), of(OUT, 2, 0), get(3), of(OUT, 2, 0), get(31), of(OUT, 2, 0)), 9999, 1, 2);
    // A register can be its own address, and the word that is there, too.
    says(of(SET, 2, 31, STORE, 2, 2, SET, 3, 31, LOAD, 3, 3, OUT, 3, 0, OUT, 2, 0), 31, 31);
    // A register that is put stays; a word that is read stays.
    says(all(put(7, 4), of(OUT, 0, 0), get(4), get(4), of(OUT, 2, 0, OUT, 1, 0)), 7, 7, 4);
  }

  private static void jumps(int number, boolean isDone) {
    Hall x = new Hall();
    make(x, SET, 2, number, JUMP, 2, 3, OUT, 0, 0);
    x.tick(2);
    due(isDone ? 3 : 2, x.of(0, NEXT), "JUMP with " + number);
  }

  static void jumps() {
    jumps(0, false);
    jumps(1, true);
    jumps(9999, true);
    Hall x = new Hall();
    make(x, SET, 0, 1, JUMP, 0, 0);
    make(x, SET, 0, 1, JUMP, 0, 1);
    x.tick(4);
    due(0, x.of(0, NEXT), "to the first instruction");
    due(1, x.of(1, NEXT), "to itself");
    // To the last one that there can be, and behind the last one that there is.
    Hall y = new Hall();
    make(y, SET, 0, 1, JUMP, 0, 23);
    make(y, SET, 0, 1, JUMP, 0, 23);
    for (int i = 2; i < 23; i++) y.instruct(0, ADD, 0, 0);
    y.instruct(0, SET, 3, 4);
    y.tick(4);
    due(READY, y.of(1, HOW), "behind its program");
    y.tick(2);
    due(4, y.register(0, 3), "the last one that there can be is done");
    due(24, y.of(0, NEXT), "behind it");
    due(STOPPED, y.of(1, HOW), "behind its program, a tick later");
    due(23, y.of(1, NEXT), "behind its program, a tick later");
    refusedAll(y, ARGUMENT, b -> () -> y.instruct(1, JUMP, 0, b), "JUMP", outside(0, 23));
  }

  static void maps() {
    Hall x = new Hall();
    make(x, all(of(MAP, 0, 7), put(5, 2), of(MAP, 7, 0), put(6, 31), get(31), of(OUT, 2, 0), get(2), of(OUT, 2, 0)));
    x.tick(20);
    due(5, x.word(0, 7, 2), "by the view 0 to the page 7");
    due(6, x.word(0, 0, 3), "by the view 7 to the page 0");
    due(0, x.word(0, 0, 2), "the page 0");
    due(0, x.word(0, 7, 3), "the page 7");
    same("[6, 5]", said(x, 0), "what is read there");
    // A view shows its own page again; two views show one page.
    says(all(of(MAP, 3, 4), put(8, 12), get(16), of(OUT, 2, 0, MAP, 3, 3), get(12), of(OUT, 2, 0), get(16), of(OUT, 2, 0)), 8, 0, 8);
  }

  static void saying() {
    says(of(), new int[0]);
    says(of(OUT, 0, 0, SET, 0, 9999, OUT, 0, 0, OUT, 3, 0), 0, 9999, 0);
    Hall x = new Hall();
    make(x, SET, 1, 1, OUT, 0, 0, ADD, 0, 1, JUMP, 1, 1);
    for (int i = 0; i < 30; i++) x.tick(100);
    due(1000, x.out(0), "as much as it says");
    for (int i : new int[] {0, 1, 8, 9, 498, 999}) due(i, x.outAt(0, i), "the number " + i);
    refusedAll(x, BOUNDS, place -> () -> x.outAt(0, place), "outAt", outside(0, 999));
  }

  /** A guest that sets its timer in the third tick, and then goes round. */
  private static Hall timer(int ticks) {
    Hall x = new Hall();
    make(x, HANDLE, 0, 5, SET, 0, ticks, OUT, 0, 1, SET, 3, 1, JUMP, 3, 4, IN, 2, 2, OUT, 2, 0, BACK, 0, 0);
    x.tick(3);
    return x;
  }

  static void timerLater() {
    for (int ticks : new int[] {1, 2, 3, 50}) {
      Hall x = timer(ticks);
      for (int i = 1; i < ticks; i++) x.tick(1);
      due(0, x.exits(0, LET), "ahead of the tick " + ticks);
      x.tick(1);
      due(1, x.exits(0, LET), "in the tick " + ticks);
      due(2, x.of(0, CAUSE), "the cause");
      x.tick(50);
      due(1, x.exits(0, LET), "it goes off once");
      same("[2]", said(x, 0), "what is said");
    }
    Hall late = timer(2997);
    for (int i = 0; i < 29; i++) late.tick(100);
    late.tick(96);
    due(0, late.exits(0, LET), "ahead of the last tick");
    late.tick(1);
    due(1, late.exits(0, LET), "in the last tick");
    Hall latest = timer(9999);
    for (int i = 0; i < 29; i++) latest.tick(100);
    latest.tick(97);
    due(0, latest.exits(0, LET), "with 9999 it goes off in no tick that is");
  }

  static void timerInPlace() {
    int[][] rows = {{5, 2}, {2, 9}, {4, 4}, {3, 1}};
    for (int[] row : rows) {
      Hall x = new Hall();
      make(x, HANDLE, 0, 6, SET, 0, row[0], SET, 1, row[1], OUT, 0, 1, OUT, 1, 1, JUMP, 1, 5, BACK, 0, 0);
      x.tick(4);
      x.tick(row[1]);
      due(0, x.exits(0, LET), "ahead of the second one");
      x.tick(1);
      due(1, x.exits(0, LET), "with the second one");
      x.tick(40);
      due(1, x.exits(0, LET), "the first one goes off no more");
    }
  }

  static void timerOff() {
    Hall x = new Hall();
    make(x, HANDLE, 0, 6, SET, 0, 2, OUT, 0, 1, OUT, 1, 1, SET, 3, 1, JUMP, 3, 5, STOP, 0, 0);
    x.tick(50);
    due(0, x.exits(0, LET), "the timer that is set no more");
    // With 0 where none was set.
    Hall none = new Hall();
    make(none, HANDLE, 0, 4, OUT, 0, 1, SET, 3, 1, JUMP, 3, 3, STOP, 0, 0);
    none.tick(50);
    due(0, none.exits(0, LET), "the timer that was never set");
    // What is pending already stays so, whether the timer is set to 0 or anew.
    for (int then : new int[] {0, 9}) {
      Hall y = new Hall();
      make(y, MASK, 0, 1, HANDLE, 0, 9, SET, 0, 1, SET, 1, then, OUT, 0, 1, SET, 3, 1, OUT, 1, 1, MASK, 0, 0, JUMP, 3, 8, BACK, 0, 0);
      y.tick(8);
      due(0, y.exits(0, LET), "while masked");
      y.tick(1);
      due(1, y.exits(0, LET), "what was pending is let in");
      due(2, y.of(0, CAUSE), "the cause");
      y.tick(40);
      due(then == 0 ? 1 : 2, y.exits(0, LET), "set to " + then + " it is let in so often");
    }
  }

  static void inputs() {
    says(of(SET, 0, 5, IN, 0, 0, OUT, 0, 0), 0);
    Hall x = new Hall();
    make(x, SET, 3, 1, IN, 2, 0, OUT, 2, 0, JUMP, 3, 1);
    for (int i = 0; i < 20; i++) due(i + 1, x.input(0, 100 + i), "input");
    refused(x, STATE, () -> x.input(0, 1), "a 21st input");
    x.tick(2);
    due(19, x.of(0, INPUTS), "one is taken");
    due(20, x.input(0, 120), "one more");
    refused(x, STATE, () -> x.input(0, 1), "a 21st input");
    x.tick(61);
    due(0, x.of(0, INPUTS), "all are taken");
    for (int i = 0; i < 21; i++) due(100 + i, x.outAt(0, i), "the input " + i);
    x.tick(3);
    due(0, x.outAt(0, 21), "without any");
    due(0, x.of(0, INPUTS), "without any");
    due(1, x.input(0, 9), "the first one again");
    x.tick(3);
    due(9, x.outAt(0, 22), "the first one again");
    yes(x.isAsPlain(0), "isAsPlain");
  }

  static void twentyInputs() {
    // However a guest is: READY, WAITING, STOPPED, DEAD.
    Hall x = new Hall();
    make(x, SET, 3, 1, JUMP, 3, 0);
    make(x, WAIT, 0, 0);
    make(x, STOP, 0, 0);
    make(x, SET, 0, 32, LOAD, 0, 0);
    x.tick(6);
    for (int guest = 0; guest < 4; guest++) {
      int one = guest;
      due(guest, x.of(guest, HOW), "how");
      for (int i = 1; i <= 20; i++) due(i, x.input(guest, 0), "input");
      refusedAll(x, STATE, value -> () -> x.input(one, value), "a 21st input", 0, 9999);
      refusedAll(x, ARGUMENT, value -> () -> x.input(one, value), "a 21st input", outside(0, 9999));
      due(20, x.of(guest, INPUTS), "inputs");
    }
  }

  static void clockAndCause() {
    Hall x = new Hall();
    x.tick(9);
    make(x, IN, 0, 1, IN, 1, 1, IN, 2, 2);
    x.input(0, 7);
    x.tick(1);
    due(0, x.register(0, 0), "the clock in the first tick");
    x.tick(1);
    due(1, x.register(0, 1), "the clock in the second tick");
    x.tick(1);
    due(0, x.register(0, 2), "the cause");
    due(1, x.of(0, INPUTS), "no input is taken");
  }

  static void waits() {
    Hall x = new Hall();
    make(x, WAIT, 0, 0, WAIT, 5, -5, WAIT, 0, 0);
    x.tick(1);
    due(WAITING, x.of(0, HOW), "WAIT");
    due(1, x.of(0, NEXT), "next");
    x.tick(50);
    due(WAITING, x.of(0, HOW), "without an interrupt");
    due(1, x.of(0, RAN), "ticks run");
    no(x.send(0), "send");
    due(READY, x.of(0, HOW), "with one");
    x.tick(1);
    due(READY, x.of(0, HOW), "WAIT while one is pending, as there is no handler");
    x.tick(1);
    due(READY, x.of(0, HOW), "WAIT while one is pending still");
    due(3, x.of(0, NEXT), "next");
    due(3, x.exits(0, RESTS), "each of these is an exit");
    // A timer that goes off in the next tick ends it: it runs in just that tick.
    Hall y = new Hall();
    make(y, SET, 0, 1, OUT, 0, 1, WAIT, 0, 0, SET, 2, 5);
    y.tick(2);
    y.tick(1);
    due(READY, y.of(0, HOW), "the timer went off ahead of WAIT");
    Hall z = new Hall();
    make(z, SET, 0, 2, OUT, 0, 1, WAIT, 0, 0, SET, 2, 5);
    z.tick(3);
    due(WAITING, z.of(0, HOW), "WAIT");
    z.tick(1);
    due(5, z.register(0, 2), "it runs in the tick in which the timer goes off");
    // Masked, it goes on behind WAIT, but nothing is let in.
    Hall w = new Hall();
    make(w, HANDLE, 0, 0, MASK, 0, 1, WAIT, 0, 0, SET, 2, 5);
    w.tick(3);
    w.send(0);
    w.tick(1);
    due(5, w.register(0, 2), "behind WAIT, masked");
    due(0, w.exits(0, LET), "let in");
  }

  static void handles() {
    // The instruction 0 can be the handler, and the last one that there can be.
    Hall x = new Hall();
    make(x, HANDLE, 0, 0, SET, 0, 32, LOAD, 1, 0);
    x.tick(3);
    due(READY, x.of(0, HOW), "the handler 0");
    due(0, x.of(0, NEXT), "the handler 0");
    due(1, x.of(0, CAUSE), "the cause");
    Hall y = new Hall();
    make(y, HANDLE, -9, 23, SET, 0, 32, LOAD, 1, 0);
    for (int i = 3; i < 23; i++) y.instruct(0, ADD, 0, 0);
    y.instruct(0, SET, 2, 6);
    y.tick(3);
    due(23, y.of(0, NEXT), "the handler 23");
    y.tick(1);
    due(6, y.register(0, 2), "it is done");
    refusedAll(x, ARGUMENT, b -> () -> x.instruct(0, HANDLE, 0, b), "HANDLE", outside(0, 23));
    // The later one counts; a handler behind the last instruction stops the guest.
    Hall z = new Hall();
    make(z, HANDLE, 0, 0, HANDLE, 0, 4, SET, 0, 32, LOAD, 1, 0);
    z.tick(4);
    due(READY, z.of(0, HOW), "a handler behind the last one");
    due(4, z.of(0, NEXT), "a handler behind the last one");
    z.tick(1);
    due(STOPPED, z.of(0, HOW), "a handler behind the last one, a tick later");
  }

  private static void masked(int guest, Hall x, int... due) {
    for (int i = 0; i < due.length; i++) {
      x.tick(1);
      due(due[i], x.of(guest, MASKED), "masked behind the instruction " + i);
      due(0, x.exits(guest, LET), "let in");
    }
  }

  static void masks() {
    Hall x = new Hall();
    make(x, HANDLE, -7, 6, MASK, -7, 1, MASK, 99, 1, ADD, 0, 0, MASK, 0, 0, MASK, 4, 0);
    masked(0, x, 0, 1, 1, 1, 0, 0);
    refusedAll(x, ARGUMENT, b -> () -> x.instruct(0, MASK, 0, b), "MASK", outside(0, 1));
    // What is sent ahead of the program is let in once it is not masked, and masks it by that.
    Hall y = new Hall();
    make(y, MASK, 0, 1, HANDLE, 0, 5, MASK, 0, 1, MASK, 0, 0, ADD, 0, 0, ADD, 0, 0);
    y.send(0);
    masked(0, y, 1, 1, 1, 0);
    y.tick(1);
    due(1, y.exits(0, LET), "let in");
    due(1, y.of(0, MASKED), "masked");
  }

  static void goesBack() {
    Hall x = new Hall();
    make(x, HANDLE, 0, 4, ADD, 0, 0, ADD, 0, 0, STOP, 0, 0, BACK, 77, -77, SET, 2, 3);
    x.tick(2);
    x.send(0);
    x.tick(1);
    due(2, x.of(0, NEXT), "the instruction that was ahead");
    due(0, x.of(0, MASKED), "masked");
    // Once more to the same place, as what was saved stays.
    Hall y = new Hall();
    make(y, MASK, 0, 1, BACK, 0, 0);
    y.tick(1);
    due(1, y.of(0, MASKED), "masked");
    y.tick(1);
    due(0, y.of(0, NEXT), "to 0");
    due(0, y.of(0, MASKED), "not masked");
    Hall z = new Hall();
    make(z, HANDLE, 0, 3, SET, 0, 32, LOAD, 1, 0, SET, 0, 5, BACK, 0, 0);
    z.tick(6);
    due(3, z.of(0, NEXT), "behind the fault that does not come again");
    z.tick(2);
    due(2, z.of(0, NEXT), "the saved one stays the saved one");
    // What was saved can lie behind the last instruction: that stops it.
    Hall w = new Hall();
    make(w, HANDLE, 0, 3, SET, 0, 1, JUMP, 0, 4, BACK, 0, 0);
    w.tick(3);
    w.send(0);
    w.tick(1);
    due(1, w.exits(0, LET), "let in");
    dueOf(w, 0, "back behind the last one", List.of(of(HOW, READY), of(NEXT, 4), of(MASKED, 0)));
    w.tick(1);
    dueOf(w, 0, "a tick later", List.of(of(HOW, STOPPED), of(NEXT, 4)));
  }

  static void gives() {
    Hall x = new Hall();
    make(x, putAll(5, 8, of(GIVE, -1, 7, GIVE, 99, 0, MAP, 1, 2, GIVE, 0, 1, GIVE, 0, 1)));
    x.tick(17);
    x.tick(1);
    due(0, x.word(0, 7, 0), "the page 7");
    due(BARE, x.pageOf(0, 7), "the page 7");
    due(5, x.word(0, 0, 0), "the page 0");
    x.tick(1);
    due(0, x.word(0, 0, 0), "the page 0");
    due(BARE, x.pageOf(0, 0), "the page 0");
    x.tick(2);
    due(BARE, x.pageOf(0, 1), "the page 1, though its view shows another");
    due(5, x.word(0, 2, 0), "the page that the view 1 shows");
    x.tick(1);
    due(BARE, x.pageOf(0, 1), "given back once more");
    for (int page = 2; page < 7; page++) due(HELD, x.pageOf(0, page), "the page " + page);
    refusedAll(x, ARGUMENT, b -> () -> x.instruct(0, GIVE, 0, b), "GIVE", outside(0, 7));
    // All four words of it are 0.
    says(all(of(SET, 0, 5), of(SET, 1, 4, STORE, 0, 1, SET, 1, 7, STORE, 0, 1, SET, 1, 8, STORE, 0, 1, GIVE, 0, 1), get(4), of(OUT, 2, 0), get(7), of(OUT, 2, 0), get(8), of(OUT, 2, 0)), 0, 0, 5);
  }

  static void stops() {
    Hall x = new Hall();
    make(x, ADD, 0, 0, STOP, -4, 99, SET, 0, 4);
    make(x, STOP, 0, 0);
    x.tick(3);
    due(STOPPED, x.of(0, HOW), "STOP");
    due(2, x.of(0, NEXT), "next");
    due(1, x.exits(0, RESTS), "it is an exit");
    due(STOPPED, x.of(1, HOW), "STOP as the last one");
    due(1, x.of(1, NEXT), "next");
    x.tick(20);
    due(0, x.register(0, 0), "it stays so");
    due(2, x.of(0, RAN), "ticks run");
    Hall y = new Hall();
    y.guest(0, 1, false);
    for (int i = 0; i < 23; i++) y.instruct(0, ADD, 0, 0);
    y.instruct(0, STOP, 0, 0);
    y.tick(24);
    due(STOPPED, y.of(0, HOW), "STOP as the last one that there can be");
    due(24, y.of(0, NEXT), "next");
  }

  static void behindTheLast() {
    for (int length = 0; length <= 24; length += length == 0 ? 1 : 23) {
      Hall x = new Hall();
      x.guest(0, 1, false);
      for (int i = 0; i < length; i++) x.instruct(0, ADD, 0, 0);
      if (length > 0) x.tick(length);
      due(READY, x.of(0, HOW), "behind " + length + " instructions");
      x.tick(1);
      due(STOPPED, x.of(0, HOW), "a tick later");
      due(length, x.of(0, NEXT), "next");
      due(length + 1, x.of(0, RAN), "ticks run");
      due(0, x.exits(0, RESTS), "that is no exit");
      x.tick(5);
      due(length + 1, x.of(0, RAN), "ticks run later");
      refused(x, STATE, () -> x.instruct(0, ADD, 0, 0), "instruct");
    }
  }

  /** What becomes of a guest that reads or puts at an address, with a handler or without. */
  private static void faults(int what, int address, boolean isFault) {
    Hall x = new Hall();
    make(x, SET, 1, address, what, 0, 1);
    make(x, HANDLE, 0, 3, SET, 1, address, what, 0, 1, WAIT, 0, 0);
    x.tick(6);
    due(isFault ? DEAD : STOPPED, x.of(0, HOW), "without a handler at " + address);
    due(isFault ? 1 : 2, x.of(0, NEXT), "next without a handler at " + address);
    due(isFault ? 1 : 0, x.of(1, CAUSE), "the cause with a handler at " + address);
    due(isFault ? 1 : 0, x.of(1, MASKED), "masked with a handler at " + address);
    due(isFault ? 0 : 2, x.used(0), "frames with " + address);
    due(isFault ? 0 : 1, x.exits(0, GIVEN), "exits with " + address);
  }

  static void addressAbove() {
    for (int what : new int[] {LOAD, STORE}) {
      for (int address : new int[] {0, 30, 31}) faults(what, address, false);
      for (int address : new int[] {32, 33, 63, 64, 9999}) faults(what, address, true);
    }
  }

  private static void withoutPage(int view, int address, boolean isFault) {
    for (int what : new int[] {LOAD, STORE}) {
      Hall x = new Hall();
      make(x, MAP, view, 8, SET, 1, address, what, 0, 1, WAIT, 0, 0);
      x.tick(4);
      due(isFault ? DEAD : WAITING, x.of(0, HOW), "the address " + address + " without the view " + view);
    }
  }

  static void viewWithoutPage() {
    for (int address : new int[] {0, 3}) withoutPage(0, address, true);
    withoutPage(0, 4, false);
    for (int address : new int[] {28, 31}) withoutPage(7, address, true);
    for (int address : new int[] {0, 27}) withoutPage(7, address, false);
    withoutPage(4, 15, false);
    withoutPage(4, 16, true);
    withoutPage(4, 19, true);
    withoutPage(4, 20, false);
    Hall y = new Hall();
    y.guest(0, 1, false);
    due(0, y.instruct(0, MAP, 7, 8), "MAP");
    refusedAll(y, ARGUMENT, b -> () -> y.instruct(0, MAP, 0, b), "MAP to", outside(0, 8));
    refusedAll(y, ARGUMENT, a -> () -> y.instruct(0, MAP, a, 0), "MAP of", outside(0, 7));
    // The page of a view that has none keeps its words, and a view gets it back.
    says(all(put(6, 4), of(MAP, 1, 8, MAP, 2, 1), get(8), of(OUT, 2, 0, MAP, 1, 1), get(4), of(OUT, 2, 0)), 6, 6);
  }

  static void deadWithoutHandler() {
    Hall x = new Hall();
    make(x, all(put(6, 4), of(SET, 1, 32, LOAD, 0, 1, OUT, 0, 0)));
    make(x, all(put(6, 4), of(SET, 1, 32, STORE, 0, 1)));
    x.tick(10);
    for (int guest = 0; guest < 2; guest++) {
      dueOf(x, guest, "when it is DEAD", List.of(of(HOW, DEAD), of(NEXT, 4), of(CAUSE, 0), of(MASKED, 0), of(RAN, 5)));
      due(6, x.register(guest, 0), "the register");
      due(6, x.word(guest, 1, 0), "the word");
      due(HELD, x.pageOf(guest, 1), "the page");
      yes(x.isAsPlain(guest), "isAsPlain");
    }
    x.tick(10);
    due(5, x.of(0, RAN), "ticks run later");
    due(2, x.used(0), "frames");
    refused(x, STATE, () -> x.send(0) ? 1 : 0, "send");
  }

  static void deadWhileMasked() {
    Hall x = new Hall();
    make(x, all(of(HANDLE, 0, 0, MASK, 0, 1), put(6, 4), of(SET, 1, 32, LOAD, 0, 1)));
    x.tick(7);
    dueOf(x, 0, "when it is DEAD", List.of(of(HOW, DEAD), of(NEXT, 6), of(CAUSE, 0), of(MASKED, 1)));
    due(HELD, x.pageOf(0, 1), "its page");
    due(6, x.word(0, 1, 0), "its word");
    // A fault in the handler, which is masked.
    Hall y = new Hall();
    make(y, HANDLE, 0, 2, SET, 0, 32, LOAD, 0, 0);
    y.tick(3);
    dueOf(y, 0, "in its handler", List.of(of(HOW, READY), of(NEXT, 2), of(CAUSE, 1), of(MASKED, 1)));
    y.tick(1);
    dueOf(y, 0, "in its handler, a tick later", List.of(of(HOW, DEAD), of(NEXT, 2), of(CAUSE, 1)));
    // An interrupt is let in, and the first instruction of the handler faults.
    Hall z = new Hall();
    make(z, HANDLE, 0, 2, SET, 0, 32, LOAD, 0, 0);
    z.tick(2);
    z.send(0);
    z.tick(1);
    dueOf(z, 0, "in its handler", List.of(of(HOW, DEAD), of(NEXT, 2), of(CAUSE, 3)));
    due(1, z.exits(0, LET), "let in");
    yes(z.isAsPlain(0), "isAsPlain");
  }

  static void faultHandled() {
    Hall x = new Hall();
    make(x, HANDLE, 0, 5, SET, 1, 32, SET, 0, 7, LOAD, 0, 1, OUT, 0, 0, SET, 1, 0, BACK, 0, 0);
    x.tick(4);
    dueOf(x, 0, "behind the fault", List.of(of(HOW, READY), of(NEXT, 5), of(CAUSE, 1), of(MASKED, 1), of(RAN, 4)));
    due(7, x.register(0, 0), "the instruction is not done");
    due(0, x.exits(0, LET), "a fault is no exit");
    x.tick(2);
    dueOf(x, 0, "behind BACK", List.of(of(NEXT, 3), of(CAUSE, 1), of(MASKED, 0)));
    x.tick(2);
    same("[0]", said(x, 0), "what is said");
    // The first instruction can fault, too: 0 is saved.
    Hall y = new Hall();
    make(y, SET, 2, 1, HANDLE, 0, 5, SET, 1, 32, JUMP, 2, 0, STOP, 0, 0, BACK, 0, 0);
    y.tick(4);
    due(0, y.of(0, NEXT), "the first instruction");
  }

  static void letIn() {
    Hall x = new Hall();
    make(x, HANDLE, 0, 6, SET, 0, 1, OUT, 0, 1, ADD, 1, 1, SET, 3, 1, JUMP, 3, 3, IN, 2, 2, OUT, 2, 0, BACK, 0, 0);
    x.tick(4);
    dueOf(x, 0, "when the timer's is let in, and the first of the handler is done", List.of(of(NEXT, 7), of(CAUSE, 2), of(MASKED, 1)));
    x.tick(2);
    due(3, x.of(0, NEXT), "back at what was next");
    x.send(0);
    x.tick(1);
    dueOf(x, 0, "when one that was sent is let in", List.of(of(NEXT, 7), of(CAUSE, 3), of(MASKED, 1)));
    x.tick(2);
    due(3, x.of(0, NEXT), "back at what was next");
    same("[2, 3]", said(x, 0), "what is said");
    due(2, x.exits(0, LET), "let in");
    // Where the instruction 0 is next, 0 is saved.
    Hall y = new Hall();
    make(y, JUMP, 1, 3, HANDLE, 0, 4, SET, 1, 1, JUMP, 1, 0, BACK, 0, 0);
    y.tick(4);
    due(0, y.of(0, NEXT), "next");
    y.send(0);
    y.tick(1);
    due(0, y.of(0, NEXT), "back at 0");
    due(1, y.exits(0, LET), "let in");
  }
}
