/** The sentences of "Exceptions": which one is thrown, and that a call that throws changes nothing, where much is under way. */
public final class RefusedTest extends Checks {
  private static final int FAR = Integer.MAX_VALUE, LOW = Integer.MIN_VALUE;
  private static Hall x;

  public static void main(String[] args) {
    sentence("IndexOutOfBoundsException: there is no such guest, host, page, register, place or snapshot.", RefusedTest::noSuchNumber);
    sentence("IllegalArgumentException: another argument is out of its range.", RefusedTest::outOfRange);
    sentence("for SET, ADD, LOAD, STORE, JUMP, OUT and IN a register, 0 to 3; for MAP a view, 0 to 7; it does not matter for others", RefusedTest::firstNumbers);
    sentence("for SET 0 to 9999; for ADD, LOAD and STORE a register; for JUMP and HANDLE 0 to 23; for MAP 0 to 8; for OUT 0 or 1; for IN 0 to 2; for MASK 0 or 1; for GIVE 0 to 7; it does not matter for others", RefusedTest::secondNumbers);
    sentence("- `what`: SET to STOP", RefusedTest::whats);
    sentence("IllegalStateException: as the method tells.", RefusedTest::states);
    sentence("If several apply, the one that is named first in the throws clause is thrown.", RefusedTest::several);
    sentence("A call that throws an exception changes nothing.", RefusedTest::bothHostsFailed);
    report();
  }

  /**
   * Five guests: 0 speaks, is followed and being moved, has 20 inputs and its timer set; 1 is DEAD; 2 is WAITING, masked and
   * paused on host 1; 3 has a full program and was not run; 4 is sealed and STOPPED. There are 10 snapshots.
   */
  private static Hall busy() {
    Hall hall = new Hall();
    make(hall, 0, 3, false, HANDLE, 0, 9, SET, 0, 30, OUT, 0, 1, SET, 1, 4, STORE, 0, 1, STORE, 0, 0, OUT, 0, 0, JUMP, 0, 5, STOP, 0, 0, BACK, 0, 0);
    make(hall, 0, 1, false, SET, 0, 7, STORE, 0, 1, SET, 1, 32, LOAD, 0, 1);
    make(hall, 1, 2, false, MASK, 0, 1, HANDLE, 0, 4, SET, 2, 9, WAIT, 0, 0, BACK, 0, 0);
    make(hall, 1, 4, false);
    for (int i = 0; i < 24; i++) hall.instruct(3, ADD, 0, 0);
    make(hall, 0, 1, true, SET, 0, 5, STORE, 0, 1, STOP, 0, 0);
    hall.pause(3, true);
    hall.snapshot(1);
    hall.snapshot(0);
    hall.snapshot(2);
    hall.tick(7);
    hall.pause(2, true);
    for (int i = 3; i < 9; i++) hall.snapshot(0);
    hall.snapshot(4);
    hall.tick(8);
    hall.scale(0, 3);
    hall.follow(0, true);
    hall.tick(4);
    for (int i = 0; i < 20; i++) hall.input(0, i);
    hall.move(0);
    hall.round(0, 1);
    return hall;
  }

  private static void refused(String exception, Call call, String what) {
    refused(x, exception, call, what);
  }

  private static Call asCall(Runnable call) {
    return () -> {
      call.run();
      return 0;
    };
  }

  private static void begin() {
    x = busy();
    int[] how = {READY, DEAD, WAITING, READY, STOPPED};
    for (int guest = 0; guest < 5; guest++) due(how[guest], x.of(guest, HOW), "how " + guest + " is");
    due(1, x.held(0), "held");
    due(1, x.of(0, TO_SEND), "to be sent");
    due(20, x.of(0, INPUTS), "inputs");
  }

  static void noSuchNumber() {
    begin();
    for (int guest : outside(0, 4)) {
      refused(BOUNDS, () -> x.instruct(guest, SET, 0, 0), "instruct");
      refused(BOUNDS, asCall(() -> x.pause(guest, true)), "pause");
      refused(BOUNDS, () -> x.scale(guest, 1), "scale");
      refused(BOUNDS, () -> x.input(guest, 1), "input");
      refused(BOUNDS, asCall(() -> x.send(guest)), "send");
      refused(BOUNDS, () -> x.move(guest), "move");
      refused(BOUNDS, () -> x.round(guest, 1), "round");
      refused(BOUNDS, () -> x.land(guest, true), "land");
      refused(BOUNDS, () -> x.snapshot(guest), "snapshot");
      refused(BOUNDS, () -> x.restore(guest, 0), "restore");
      refused(BOUNDS, asCall(() -> x.follow(guest, true)), "follow");
      refused(BOUNDS, () -> x.step(guest), "step");
      refused(BOUNDS, () -> x.of(guest, 0), "of");
      refused(BOUNDS, () -> x.register(guest, 0), "register");
      refused(BOUNDS, () -> x.word(guest, 0, 0), "word");
      refused(BOUNDS, () -> x.pageOf(guest, 0), "pageOf");
      refused(BOUNDS, () -> x.frameOf(guest, 0), "frameOf");
      refused(BOUNDS, () -> x.exits(guest, 0), "exits");
      refused(BOUNDS, () -> x.out(guest), "out");
      refused(BOUNDS, () -> x.outAt(guest, 0), "outAt");
      refused(BOUNDS, () -> x.held(guest), "held");
      refused(BOUNDS, asCall(() -> x.isAsPlain(guest)), "isAsPlain");
    }
    for (int host : outside(0, 1)) {
      refused(BOUNDS, () -> x.guest(host, 1, false), "guest");
      refused(BOUNDS, () -> x.share(host), "share");
      refused(BOUNDS, () -> x.fail(host), "fail");
      refused(BOUNDS, asCall(() -> x.mend(host)), "mend");
      refused(BOUNDS, () -> x.used(host), "used");
    }
    for (int page : outside(0, 7)) {
      refused(BOUNDS, () -> x.word(0, page, 0), "word");
      refused(BOUNDS, () -> x.pageOf(0, page), "pageOf");
      refused(BOUNDS, () -> x.frameOf(0, page), "frameOf");
    }
    for (int place : outside(0, 3)) {
      refused(BOUNDS, () -> x.register(0, place), "register");
      refused(BOUNDS, () -> x.word(0, 0, place), "word");
      refused(BOUNDS, () -> x.word(4, 7, place), "word of a sealed one");
    }
    int out = x.out(0);
    yes(out > 0, "something went out");
    for (int place : outside(0, out - 1)) refused(BOUNDS, () -> x.outAt(0, place), "outAt");
    for (int snapshot : outside(0, 9)) {
      refused(BOUNDS, () -> x.stored(snapshot), "stored");
      refused(BOUNDS, () -> x.restore(1, snapshot), "restore");
    }
  }

  static void outOfRange() {
    begin();
    Hall open = new Hall();
    make(open, LOOP);
    for (int weight : outside(1, 4)) refused(open, ARGUMENT, () -> open.guest(1, weight, true), "guest with the weight " + weight);
    for (int weight : new int[] {1, 4}) due(weight == 1 ? 1 : 2, open.guest(1, weight, true), "guest");
    for (int scale : outside(1, 3)) refused(ARGUMENT, () -> x.scale(0, scale), "scale " + scale);
    for (int value : outside(0, 9999)) refused(ARGUMENT, () -> x.input(1, value), "input " + value);
    for (int ticks : outside(1, 100)) refused(ARGUMENT, () -> x.tick(ticks), "tick " + ticks);
    for (int pages : outside(1, 8)) refused(ARGUMENT, () -> x.round(0, pages), "round " + pages);
    for (int what : outside(0, 10)) refused(ARGUMENT, () -> x.of(0, what), "of " + what);
    for (int kind : outside(GIVEN, LET)) refused(ARGUMENT, () -> x.exits(0, kind), "exits " + kind);
    for (int value : new int[] {0, 9999}) due(value == 0 ? 1 : 2, x.input(1, value), "input");
    for (int what = 0; what <= 10; what++) x.of(0, what);
    for (int kind = GIVEN; kind <= LET; kind++) x.exits(0, kind);
  }

  private static void numbers(boolean isFirst, int what, int last) {
    Hall one = new Hall();
    make(one, LOOP);
    int count = 2;
    int[] good = last < 0 ? new int[] {LOW, -1, 0, 1, 9999, 10000, FAR} : new int[] {0, last / 2, last};
    for (int number : good) due(count++, isFirst ? one.instruct(0, what, number, 0) : one.instruct(0, what, 0, number), what + " with " + number);
    if (last < 0) return;
    for (int number : outside(0, last)) {
      refused(one, ARGUMENT, () -> isFirst ? one.instruct(0, what, number, 0) : one.instruct(0, what, 0, number), what + " with " + number);
    }
  }

  static void firstNumbers() {
    for (int what : new int[] {SET, ADD, LOAD, STORE, JUMP, OUT, IN}) numbers(true, what, 3);
    numbers(true, MAP, 7);
    for (int what : new int[] {WAIT, HANDLE, MASK, BACK, GIVE, STOP}) numbers(true, what, -1);
  }

  static void secondNumbers() {
    int[] whats = {SET, ADD, LOAD, STORE, JUMP, HANDLE, MAP, OUT, IN, MASK, GIVE}, lasts = {9999, 3, 3, 3, 23, 23, 8, 1, 2, 1, 7};
    for (int i = 0; i < whats.length; i++) numbers(false, whats[i], lasts[i]);
    for (int what : new int[] {WAIT, BACK, STOP}) numbers(false, what, -1);
  }

  static void whats() {
    Hall one = new Hall();
    one.guest(0, 1, false);
    for (int what : outside(SET, STOP)) refused(one, ARGUMENT, () -> one.instruct(0, what, 0, 0), "instruct " + what);
    for (int what = SET; what <= STOP; what++) due(what, one.instruct(0, what, 0, 0), "instruct " + what);
  }

  static void states() {
    begin();
    refused(STATE, () -> x.guest(0, 1, false), "guest");
    refused(STATE, () -> x.instruct(0, SET, 0, 0), "instruct of one that has been run");
    refused(STATE, () -> x.instruct(3, SET, 0, 0), "instruct of one with 24");
    refused(STATE, () -> x.input(0, 1), "input");
    refused(STATE, asCall(() -> x.send(1)), "send to one that is DEAD");
    refused(STATE, asCall(() -> x.send(4)), "send to one that is STOPPED");
    refused(STATE, () -> x.move(0), "move of one that is being moved");
    refused(STATE, () -> x.move(1), "move of one that is DEAD");
    refused(STATE, () -> x.round(2, 1), "round");
    refused(STATE, () -> x.land(2, true), "land");
    refused(STATE, () -> x.land(2, false), "land");
    refused(STATE, () -> x.snapshot(1), "snapshot of one that is DEAD");
    refused(STATE, () -> x.snapshot(0), "snapshot");
    refused(STATE, () -> x.restore(0, 1), "restore of one that is followed");
    refused(STATE, () -> x.restore(1, 1), "restore of another's");
    refused(STATE, asCall(() -> x.follow(1, true)), "follow of one that is DEAD");
    refused(STATE, asCall(() -> x.follow(1, false)), "follow no more of one that is DEAD");
    refused(STATE, () -> x.step(2), "step");
    for (int host = 0; host < 2; host++) {
      int one = host;
      refused(STATE, asCall(() -> x.mend(one)), "mend");
    }
  }

  static void several() {
    begin();
    // No such number goes ahead of all else.
    refused(BOUNDS, () -> x.guest(2, 5, false), "guest: no host, no weight, and five already");
    refused(BOUNDS, () -> x.guest(-1, 1, false), "guest: no host, and five already");
    refused(BOUNDS, () -> x.instruct(5, 14, 9, 9), "instruct: no guest, no instruction");
    refused(BOUNDS, () -> x.scale(5, 0), "scale: no guest, no scale");
    refused(BOUNDS, () -> x.input(5, -1), "input: no guest, no value");
    refused(BOUNDS, () -> x.round(5, 0), "round: no guest, no pages");
    refused(BOUNDS, () -> x.of(5, 11), "of: no guest, and nothing to tell");
    refused(BOUNDS, () -> x.exits(5, 6), "exits: no guest, no kind");
    refused(BOUNDS, () -> x.restore(0, 10), "restore: no snapshot, and it is followed");
    refused(BOUNDS, () -> x.restore(5, 10), "restore: no guest, no snapshot");
    refused(BOUNDS, () -> x.restore(5, 0), "restore: no guest, and another's snapshot");
    // An argument goes ahead of a state.
    refused(ARGUMENT, () -> x.guest(0, 0, false), "guest: no weight, and five already");
    refused(ARGUMENT, () -> x.guest(1, 5, false), "guest: no weight, and five already");
    for (int guest : new int[] {0, 3}) {
      refused(ARGUMENT, () -> x.instruct(guest, 14, 0, 0), "instruct: no instruction, and no more of them");
      refused(ARGUMENT, () -> x.instruct(guest, -1, 0, 0), "instruct: no instruction, and no more of them");
      refused(ARGUMENT, () -> x.instruct(guest, SET, 4, 0), "instruct: no register, and no more of them");
      refused(ARGUMENT, () -> x.instruct(guest, SET, 0, 10000), "instruct: no number, and no more of them");
    }
    refused(ARGUMENT, () -> x.input(0, 10000), "input: no value, and 20 already");
    refused(ARGUMENT, () -> x.input(0, -1), "input: no value, and 20 already");
    refused(ARGUMENT, () -> x.round(2, 0), "round: no pages, and it is not being moved");
    refused(ARGUMENT, () -> x.round(2, 9), "round: no pages, and it is not being moved");
    late();
  }

  private static void late() {
    Hall late = new Hall();
    make(late, LOOP);
    for (int i = 0; i < 30; i++) late.tick(100);
    for (int ticks : outside(1, 100)) refused(late, ARGUMENT, () -> late.tick(ticks), "tick " + ticks + " at 3000");
    for (int ticks : new int[] {1, 100}) refused(late, STATE, () -> late.tick(ticks), "tick " + ticks + " at 3000");
  }

  static void bothHostsFailed() {
    begin();
    // Where the host 1 has failed.
    x.fail(1);
    due(-1, x.of(0, TO_SEND), "to be sent");
    refused(STATE, () -> x.fail(1), "fail");
    refused(STATE, asCall(() -> x.mend(0)), "mend");
    refused(STATE, () -> x.move(0), "move to a host that has failed");
    refused(STATE, () -> x.move(2), "move of one that is DEAD by that");
    refused(STATE, () -> x.round(0, 1), "round");
    refused(STATE, () -> x.land(0, true), "land");
    refused(STATE, asCall(() -> x.send(2)), "send");
    refused(STATE, () -> x.restore(2, 2), "restore on a host that has failed");
    refused(STATE, () -> x.restore(2, 1), "restore on a host that has failed, of another's");
    refused(BOUNDS, () -> x.restore(2, 10), "restore on a host that has failed, of none");
    // And where both have.
    x.fail(0);
    due(0, x.held(0), "held");
    for (int host = 0; host < 2; host++) {
      int one = host;
      refused(STATE, () -> x.fail(one), "fail");
      refused(STATE, () -> x.guest(one, 1, false), "guest");
      refused(ARGUMENT, () -> x.guest(one, 0, false), "guest");
    }
    refused(STATE, () -> x.step(0), "step");
    refused(STATE, () -> x.input(0, 1), "input");
    refused(STATE, () -> x.instruct(3, SET, 0, 0), "instruct");
    for (int guest = 0; guest < 5; guest++) {
      int one = guest;
      refused(STATE, asCall(() -> x.send(one)), "send");
      refused(STATE, () -> x.move(one), "move");
      refused(STATE, () -> x.snapshot(one), "snapshot");
      refused(STATE, asCall(() -> x.follow(one, true)), "follow");
      refused(STATE, () -> x.restore(one, one == 4 ? 9 : one == 2 ? 2 : 1 - one % 2), "restore");
    }
  }
}
