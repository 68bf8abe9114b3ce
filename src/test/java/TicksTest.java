import java.util.List;

/** The sentences of "Ticks", and of the promises 4, 5, 7, 8 and 19, that name an edge, each with a test of its own. */
public final class TicksTest extends Checks {
  private static final int[] WEIGHTS = {1, 2, 3, 4};

  public static void main(String[] args) {
    sentence("first each timer that is set to go off in it makes the interrupt of the timer pending, by rising guests; those WAITING with an interrupt pending are READY", TicksTest::timersFirst);
    sentence("Then each host, 0 first, that has not failed runs one guest", TicksTest::eachHostRunsOne);
    sentence("the one that it ran last, if that has done fewer ticks in a row than its weight, 1 to 4, and can run", TicksTest::rows);
    sentence("otherwise the next one in number behind it, at first 0, round and round, that can", TicksTest::roundAndRound);
    sentence("perhaps the same again, whose row begins anew", TicksTest::sameAgain);
    sentence("if there is none, which it ran last, and its row, stay so (also of one that is on the other host by then)", TicksTest::stays);
    sentence("A guest can run on its host, if it is READY, and not paused.", TicksTest::canRun);
    sentence("All others that could have run there have 1 tick more stolen.", TicksTest::stolen);
    sentence("if an interrupt is pending (the timer's goes first), it is not masked, and has a handler, it is let in, and pending no more", TicksTest::interrupts);
    sentence("Then the next instruction is done.", TicksTest::nextIsDone);
    sentence("An instruction number beyond the last one stops it; that is its tick, too.", TicksTest::beyondTheLast);
    sentence("The clock of a guest is the ticks that went by since it was made (within a tick, those ahead of it)", TicksTest::clockSinceMade);
    sentence("times its scale, 1 to 3, and its shift, together; by the remainder by 10000", TicksTest::clockScaled);
    sentence("Sets the scale of a clock; the clock does not jump by that.", TicksTest::clockDoesNotJump);
    sentence("Pauses a guest, or no more.", TicksTest::pauses);
    sentence("it is pending, and a guest that is WAITING is READY", TicksTest::sends);
    sentence("Returns whether one that was sent was pending already.", TicksTest::sentAlready);
    sentence("Throws `IllegalStateException` if it is STOPPED or DEAD", TicksTest::sendRefused);
    sentence("- `ticks`: 1 to 100", TicksTest::ticks);
    sentence("Throws `IllegalStateException` if it would be above 3000", TicksTest::lastTime);
    sentence("Returns the time: how many ticks went by.", TicksTest::time);
    report();
  }

  /** In each of the next ticks the host runs just this guest, or none. */
  private static void turns(Hall x, int host, int guests, String when, int... due) {
    for (int i = 0; i < due.length; i++) {
      int[] before = new int[guests];
      for (int guest = 0; guest < guests; guest++) before[guest] = x.of(guest, RAN);
      x.tick(1);
      for (int guest = 0; guest < guests; guest++) {
        if (x.of(guest, HOST) == host) due(guest == due[i] ? 1 : 0, x.of(guest, RAN) - before[guest], "whether " + guest + " runs in the tick " + i + " " + when);
      }
    }
  }

  private static Hall loops(int... weights) {
    Hall x = new Hall();
    for (int weight : weights) make(x, 0, weight, false, LOOP);
    return x;
  }

  static void timersFirst() {
    // Both timers go off in the same tick: the guest that runs in it runs with its handler, the other is READY.
    Hall x = new Hall();
    make(x, HANDLE, 0, 4, SET, 0, 4, OUT, 0, 1, WAIT, 0, 0, ADD, 1, 1, BACK, 0, 0);
    make(x, HANDLE, 0, 4, SET, 0, 3, OUT, 0, 1, WAIT, 0, 0, ADD, 1, 1, BACK, 0, 0);
    x.tick(8);
    due(WAITING, x.of(0, HOW), "the one whose timer goes off in the tick 9");
    due(WAITING, x.of(1, HOW), "the other one, too");
    x.tick(1);
    dueOf(x, 0, "in the tick in which both go off", List.of(of(HOW, READY), of(CAUSE, 2), of(NEXT, 5), of(STOLEN, 3)));
    dueOf(x, 1, "in the tick in which both go off", List.of(of(HOW, READY), of(CAUSE, 0), of(NEXT, 4), of(STOLEN, 5)));
    // Those that are paused, and those on the other host, are READY as well.
    Hall y = new Hall();
    make(y, SET, 0, 5, OUT, 0, 1, WAIT, 0, 0);
    make(y, 1, 1, false, SET, 0, 5, OUT, 0, 1, WAIT, 0, 0);
    y.tick(3);
    y.pause(0, true);
    y.pause(1, true);
    y.tick(3);
    due(WAITING, y.of(0, HOW), "ahead of that tick, paused");
    due(WAITING, y.of(1, HOW), "ahead of that tick on the host 1, paused");
    y.tick(1);
    due(READY, y.of(0, HOW), "in that tick, paused");
    due(READY, y.of(1, HOW), "in that tick on the host 1, paused");
    due(3, y.of(0, RAN), "ticks run");
  }

  static void eachHostRunsOne() {
    Hall x = new Hall();
    for (int guest = 0; guest < 4; guest++) make(x, guest % 2, 1, false, LOOP);
    turns(x, 0, 4, "on the host 0", 0, 2, 0);
    turns(x, 1, 4, "on the host 1", 3, 1, 3);
    x.fail(0);
    turns(x, 0, 4, "on a host that failed", -1, -1);
    turns(x, 1, 4, "on the other host", 1, 3);
    x.mend(0);
    make(x, 0, 1, false, LOOP);
    turns(x, 0, 5, "on a host that was mended", 4, 4);
    x.fail(0);
    x.fail(1);
    turns(x, 1, 5, "where both have failed", -1);
    for (int guest = 0; guest < 5; guest++) due(DEAD, x.of(guest, HOW), "guest");
  }

  static void rows() {
    for (int weight : WEIGHTS) {
      Hall x = loops(weight, 1);
      for (int i = 0; i < 3; i++) {
        for (int in = 0; in < weight; in++) turns(x, 0, 2, "with the weight " + weight, 0);
        turns(x, 0, 2, "with the weight " + weight, 1);
      }
      Hall y = loops(1, weight);
      turns(y, 0, 2, "with the weight " + weight, 0);
      for (int in = 0; in < weight; in++) turns(y, 0, 2, "with the weight " + weight, 1);
      turns(y, 0, 2, "with the weight " + weight, 0, 1);
    }
    turns(loops(4, 4, 4, 4, 4), 0, 5, "with five", 0, 0, 0, 0, 1, 1, 1, 1, 2, 2, 2, 2, 3, 3, 3, 3, 4, 4, 4, 4, 0, 0, 0, 0, 1);
    // One that can run no more within its row leaves the rest of it.
    Hall x = loops(4, 2);
    x.tick(2);
    x.pause(0, true);
    turns(x, 0, 2, "when the first is paused in its row", 1, 1, 1);
    x.pause(0, false);
    turns(x, 0, 2, "when it comes back, anew", 1, 0, 0, 0, 0, 1);
    for (int weight : outside(1, 4)) refused(x, ARGUMENT, () -> x.guest(0, weight, false), "guest with the weight " + weight);
  }

  static void roundAndRound() {
    turns(loops(1, 1, 1), 0, 3, "at first 0", 0, 1, 2, 0, 1, 2, 0);
    Hall x = loops(1, 1, 1, 1, 1);
    x.pause(0, true);
    x.pause(3, true);
    turns(x, 0, 5, "at first the first that can", 1, 2, 4, 1);
    x.pause(0, false);
    x.pause(1, true);
    x.pause(3, false);
    turns(x, 0, 5, "behind the one that ran last", 2, 3, 4, 0, 2);
    // The host 1 begins with 0, too: with the lowest that is there.
    Hall y = new Hall();
    make(y, 0, 1, false, LOOP);
    make(y, 0, 1, false, LOOP);
    make(y, 1, 1, false, LOOP);
    make(y, 1, 1, false, LOOP);
    turns(y, 1, 4, "on the host 1", 2, 3, 2, 3);
    // One that is made later is behind all others.
    Hall z = loops(1, 1);
    z.tick(2);
    make(z, 0, 1, false, LOOP);
    turns(z, 0, 3, "made later", 2, 0, 1, 2);
  }

  static void sameAgain() {
    for (int alone = 1; alone <= 9; alone++) {
      Hall x = loops(3);
      x.tick(alone);
      make(x, 0, 1, false, LOOP);
      for (int left = 2 - (alone - 1) % 3; left > 0; left--) turns(x, 0, 2, "behind " + alone + " ticks alone", 0);
      turns(x, 0, 2, "behind " + alone + " ticks alone", 1, 0, 0, 0, 1);
    }
    // Round and round to itself, as the other one cannot.
    Hall x = loops(2, 1);
    x.pause(1, true);
    x.tick(3);
    x.pause(1, false);
    turns(x, 0, 2, "whose second row goes on", 0, 1);
  }

  static void stays() {
    // The row stays, while the one that ran last is paused or WAITING, and none runs.
    Hall x = loops(4);
    x.tick(3);
    x.pause(0, true);
    make(x, 0, 1, false, LOOP);
    x.pause(1, true);
    turns(x, 0, 2, "where none can", -1, -1, -1);
    x.pause(0, false);
    x.pause(1, false);
    turns(x, 0, 2, "behind that", 0, 1, 0);
    Hall y = new Hall();
    make(y, 0, 3, false, SET, 3, 1, WAIT, 0, 0, JUMP, 3, 2);
    y.tick(2);
    turns(y, 0, 1, "while it is WAITING", -1, -1);
    y.send(0);
    make(y, 0, 1, false, LOOP);
    turns(y, 0, 2, "behind that", 0, 1, 0, 0, 0, 1);
    // Which it ran last stays: the next one in number comes, not the first.
    Hall z = loops(1, 1, 1);
    z.tick(2);
    for (int guest = 0; guest < 3; guest++) z.pause(guest, true);
    turns(z, 0, 3, "where none can", -1, -1);
    for (int guest = 0; guest < 3; guest++) z.pause(guest, false);
    turns(z, 0, 3, "behind that", 2, 0);
    onTheOtherHost();
  }

  static void onTheOtherHost() {
    // It goes to the other host in its row, and comes back: its row goes on, if none ran meanwhile.
    for (boolean isAnotherRun : new boolean[] {false, true}) {
      Hall x = loops(4, 1);
      x.tick(2);
      x.pause(1, !isAnotherRun);
      x.move(0);
      x.land(0, true);
      turns(x, 0, 2, "while it is on the other host", isAnotherRun ? 1 : -1);
      x.move(0);
      x.land(0, true);
      x.pause(1, false);
      if (isAnotherRun) {
        turns(x, 0, 2, "with a row anew", 0, 0, 0, 0, 1);
      } else {
        turns(x, 0, 2, "with the rest of its row", 0, 0, 1);
      }
    }
    // The one that ran last is on the other host: the next one in number behind it comes.
    Hall y = loops(1, 1, 1);
    y.tick(2);
    y.move(1);
    y.land(1, true);
    turns(y, 0, 3, "behind the one that left", 2, 0, 2);
    due(4, y.of(1, RAN), "it runs there");
    // Its row here does not count there.
    Hall z = loops(2);
    z.tick(1);
    z.move(0);
    z.land(0, true);
    make(z, 1, 1, false, LOOP);
    turns(z, 1, 2, "there", 0, 0, 1);
  }

  static void canRun() {
    Hall x = new Hall();
    make(x, 0, 1, false, LOOP);
    make(x, 0, 1, false, WAIT, 0, 0);
    make(x, 0, 1, false, STOP, 0, 0);
    make(x, 0, 1, false, SET, 0, 99, LOAD, 0, 0);
    make(x, 0, 1, false, LOOP);
    turns(x, 0, 5, "at first", 0, 1, 2, 3, 4, 0, 3, 4);
    int[] due = {READY, WAITING, STOPPED, DEAD, READY};
    for (int guest = 0; guest < 5; guest++) due(due[guest], x.of(guest, HOW), "guest " + guest);
    turns(x, 0, 5, "that are READY", 0, 4, 0, 4);
    x.pause(0, true);
    turns(x, 0, 5, "that is not paused", 4, 4);
    x.send(1);
    x.pause(1, true);
    turns(x, 0, 5, "READY, but paused", 4);
    x.pause(1, false);
    turns(x, 0, 5, "READY, and not paused", 1, 4, 4);
    x.move(4);
    x.land(4, true);
    turns(x, 0, 5, "where none can", -1);
    turns(x, 1, 5, "on its host", 4);
  }

  static void stolen() {
    Hall x = loops(1, 1, 1, 1, 1);
    x.tick(7);
    int[] ran = {2, 2, 1, 1, 1};
    for (int guest = 0; guest < 5; guest++) due(7 - ran[guest], x.of(guest, STOLEN), "stolen of " + guest);
    Hall y = new Hall();
    make(y, 0, 4, false, LOOP);
    make(y, 0, 1, false, LOOP);
    make(y, 0, 1, false, LOOP);
    make(y, 1, 1, false, LOOP);
    y.pause(1, true);
    y.tick(4);
    due(0, y.of(0, STOLEN), "of the one that runs");
    due(0, y.of(1, STOLEN), "of one that is paused");
    due(4, y.of(2, STOLEN), "of one that could have run");
    due(0, y.of(3, STOLEN), "of one on the other host");
    y.tick(1);
    due(1, y.of(0, STOLEN), "once another runs");
    y.tick(4);
    due(8, y.of(2, STOLEN), "of one that could have run");
    Hall z = new Hall();
    make(z, 0, 1, false, SET, 0, 2, OUT, 0, 1, WAIT, 0, 0, LOAD, 0, 0);
    z.tick(3);
    make(z, 0, 4, false, LOOP);
    z.pause(0, true);
    z.tick(1);
    due(0, z.of(0, STOLEN), "of one that is paused, though its timer goes off");
    Hall w = new Hall();
    make(w, 0, 1, false, SET, 0, 4, OUT, 0, 1, WAIT, 0, 0, LOAD, 0, 0);
    w.tick(3);
    make(w, 0, 4, false, LOOP);
    w.tick(2);
    due(0, w.of(0, STOLEN), "of one that is WAITING");
    w.tick(1);
    due(1, w.of(0, STOLEN), "in the tick in which its timer goes off");
    w.tick(1);
    due(2, w.of(0, STOLEN), "and behind that");
    Hall v = new Hall();
    make(v, STOP, 0, 0);
    make(v, SET, 0, 99, LOAD, 0, 0);
    make(v, LOOP);
    v.tick(5);
    due(0, v.of(0, STOLEN), "of one that is STOPPED");
    due(2, v.of(1, STOLEN), "of one that is DEAD since its second tick");
    v.tick(9);
    due(0, v.of(0, STOLEN), "of one that is STOPPED");
    due(2, v.of(1, STOLEN), "of one that is DEAD");
    due(3, v.of(2, STOLEN), "of one that had to wait for the others");
  }

  static void interrupts() {
    // Both are pending: the timer's goes first, and the other stays pending until the first handler is through.
    Hall x = new Hall();
    make(x, MASK, 0, 1, HANDLE, 0, 6, SET, 0, 1, OUT, 0, 1, ADD, 1, 1, MASK, 0, 0, IN, 2, 2, OUT, 2, 0, BACK, 0, 0);
    no(x.send(0), "send");
    x.tick(6);
    due(0, x.exits(0, LET), "while it is masked");
    x.tick(1);
    due(1, x.exits(0, LET), "let in");
    due(2, x.of(0, CAUSE), "the timer's first");
    yes(x.send(0), "the other is pending still");
    x.tick(2);
    due(0, x.of(0, MASKED), "behind BACK");
    x.tick(1);
    due(2, x.exits(0, LET), "let in");
    due(3, x.of(0, CAUSE), "the one that was sent");
    no(x.send(0), "it is pending no more");
    x.tick(2);
    x.tick(1);
    due(3, x.exits(0, LET), "let in once more");
    same("[2, 3]", said(x, 0), "what is said");
    // Without a handler it stays pending until there is one.
    Hall y = new Hall();
    make(y, ADD, 0, 0, ADD, 0, 0, HANDLE, 0, 0);
    y.send(0);
    y.tick(3);
    due(0, y.exits(0, LET), "without a handler");
    due(3, y.of(0, NEXT), "without a handler");
    y.tick(1);
    due(1, y.exits(0, LET), "with a handler, though the program is at its end");
    dueOf(y, 0, "with a handler", List.of(of(HOW, READY), of(NEXT, 1), of(CAUSE, 3)));
    // The timer's, which was let in, is pending no more.
    Hall z = new Hall();
    make(z, HANDLE, 0, 4, SET, 0, 1, OUT, 0, 1, JUMP, 0, 3, BACK, 0, 0);
    z.tick(30);
    due(1, z.exits(0, LET), "let in");
    due(2, z.of(0, CAUSE), "the timer's");
    // A timer that goes off twice while it is masked is pending once.
    Hall w = new Hall();
    make(w, MASK, 0, 1, HANDLE, 0, 8, SET, 0, 1, OUT, 0, 1, OUT, 0, 1, OUT, 0, 1, MASK, 0, 0, JUMP, 0, 7, BACK, 0, 0);
    w.tick(30);
    due(1, w.exits(0, LET), "let in");
  }

  static void nextIsDone() {
    Hall x = new Hall();
    make(x, HANDLE, 0, 2, JUMP, 0, 1, SET, 2, 9, BACK, 0, 0);
    x.tick(1);
    x.send(0);
    x.tick(1);
    due(9, x.register(0, 2), "the first instruction of the handler, in the same tick");
    due(3, x.of(0, NEXT), "next");
    due(2, x.of(0, RAN), "ticks run");
    // One instruction a tick.
    Hall y = new Hall();
    make(y, ADD, 0, 0, ADD, 0, 0, ADD, 0, 0);
    for (int i = 1; i <= 3; i++) {
      y.tick(1);
      due(i, y.of(0, NEXT), "next");
      due(i, y.of(0, RAN), "ticks run");
    }
  }

  static void beyondTheLast() {
    Hall x = new Hall();
    make(x);
    make(x, LOOP);
    x.tick(1);
    dueOf(x, 0, "without a program", List.of(of(HOW, STOPPED), of(NEXT, 0), of(RAN, 1)));
    due(1, x.of(1, STOLEN), "the tick is stolen from the other");
    // An interrupt is let in ahead of that, and the handler lies beyond the last one, too.
    Hall y = new Hall();
    make(y, HANDLE, 0, 1);
    y.tick(1);
    y.send(0);
    y.tick(1);
    dueOf(y, 0, "with a handler beyond the last one", List.of(of(HOW, STOPPED), of(NEXT, 1), of(RAN, 2), of(CAUSE, 3), of(MASKED, 1)));
    due(1, y.exits(0, LET), "let in");
    refused(y, STATE, () -> y.send(0) ? 1 : 0, "send");
    yes(y.isAsPlain(0), "isAsPlain");
  }

  static void clockSinceMade() {
    Hall x = new Hall();
    make(x, IN, 0, 1, IN, 1, 1);
    x.tick(5);
    make(x, IN, 0, 1, IN, 1, 1);
    due(5, x.of(0, CLOCK), "the clock");
    due(0, x.of(1, CLOCK), "the clock of one that is just made");
    x.tick(1);
    due(0, x.register(1, 0), "as it reads it in its first tick");
    due(1, x.of(1, CLOCK), "the clock");
    x.tick(1);
    due(1, x.register(1, 1), "as it reads it in its second tick");
    due(0, x.register(0, 0), "as the other read it");
    due(1, x.register(0, 1), "as the other read it");
    due(7, x.of(0, CLOCK), "the clock of one that is STOPPED");
    x.fail(0);
    x.tick(3);
    due(10, x.of(0, CLOCK), "the clock of one that is DEAD");
  }

  static void clockScaled() {
    for (int scale = 1; scale <= 3; scale++) {
      Hall x = new Hall();
      make(x, SET, 3, 1, IN, 0, 1, JUMP, 3, 1);
      due(1, x.scale(0, scale), "scale");
      x.tick(1);
      due(scale, x.of(0, CLOCK), "the clock behind a tick");
      x.tick(1);
      due(scale, x.register(0, 0), "as it is read in the second tick");
      x.tick(98);
      for (int i = 1; i < 30; i++) x.tick(100);
      due(3000 * scale, x.of(0, CLOCK), "the clock at the end");
    }
    Hall x = new Hall();
    make(x, LOOP);
    refusedAll(x, ARGUMENT, scale -> () -> x.scale(0, scale), "scale", outside(1, 3));
  }

  static void clockDoesNotJump() {
    int clock = 0;
    Hall x = new Hall();
    make(x, SET, 3, 1, IN, 0, 1, JUMP, 3, 1);
    x.scale(0, 1);
    for (int from = 1; from <= 3; from++) {
      for (int to = 1; to <= 3; to++) {
        x.scale(0, from);
        due(clock, x.of(0, CLOCK), "the clock when the scale becomes " + from);
        x.tick(17);
        clock += 17 * from;
        due(clock, x.of(0, CLOCK), "the clock");
        due(from, x.scale(0, to), "the scale before");
        due(clock, x.of(0, CLOCK), "the clock when the scale becomes " + to);
        due(to, x.scale(0, to), "the same scale again");
        x.tick(2);
        clock += 2 * to;
        due(clock, x.of(0, CLOCK), "the clock with " + to);
      }
    }
  }

  static void pauses() {
    Hall x = loops(1, 1);
    no(x.pause(0, false), "pause no more, at first");
    no(x.pause(0, true), "pause");
    yes(x.pause(0, true), "pause once more");
    no(x.pause(1, false), "of the other");
    yes(x.pause(0, false), "pause no more");
    no(x.pause(0, false), "pause no more once more");
    refusedAll(x, BOUNDS, guest -> () -> x.pause(guest, true) ? 1 : 0, "pause", outside(0, 1));
    // Those that have ended can be paused, too.
    Hall y = new Hall();
    make(y, SET, 0, 99, LOAD, 0, 0);
    make(y);
    y.tick(3);
    for (int guest = 0; guest < 2; guest++) {
      no(y.pause(guest, true), "pause");
      yes(y.pause(guest, false), "pause no more");
    }
  }

  static void sends() {
    Hall x = new Hall();
    make(x, HANDLE, 0, 2, WAIT, 0, 0, IN, 0, 2);
    x.tick(1);
    x.pause(0, true);
    x.send(0);
    due(READY, x.of(0, HOW), "one that is READY");
    x.pause(0, false);
    x.tick(1);
    due(3, x.register(0, 0), "it is let in in the next tick");
    Hall y = new Hall();
    make(y, WAIT, 0, 0);
    y.tick(1);
    y.pause(0, true);
    due(WAITING, y.of(0, HOW), "ahead of send");
    y.send(0);
    due(READY, y.of(0, HOW), "one that was WAITING, paused");
  }

  static void sendRefused() {
    Hall x = new Hall();
    make(x, STOP, 0, 0);
    make(x, SET, 0, 99, LOAD, 0, 0);
    make(x);
    for (int guest = 0; guest < 3; guest++) no(x.send(guest), "send ahead of that");
    x.tick(4);
    int[] how = {STOPPED, DEAD, STOPPED};
    for (int guest = 0; guest < 3; guest++) {
      int one = guest;
      due(how[guest], x.of(guest, HOW), "how");
      refused(x, STATE, () -> x.send(one) ? 1 : 0, "send to " + guest);
    }
    x.fail(0);
    refused(x, STATE, () -> x.send(0) ? 1 : 0, "send to one that is DEAD by the failing of its host");
    refusedAll(x, BOUNDS, guest -> () -> x.send(guest) ? 1 : 0, "send", outside(0, 2));
  }

  static void sentAlready() {
    Hall x = new Hall();
    make(x, MASK, 0, 1, SET, 0, 1, OUT, 0, 1, ADD, 0, 0, ADD, 0, 0);
    x.tick(4);
    no(x.send(0), "the timer's is pending, but none that was sent");
    yes(x.send(0), "one that was sent is");
    yes(x.send(0), "and is");
  }

  static void ticks() {
    Hall x = new Hall();
    due(1, x.tick(1), "the fewest");
    due(101, x.tick(100), "the most");
    refusedAll(x, ARGUMENT, ticks -> () -> x.tick(ticks), "tick", outside(1, 100));
    make(x, LOOP);
    due(201, x.tick(100), "the most");
    due(100, x.of(0, RAN), "ticks run");
  }

  static void lastTime() {
    Hall x = new Hall();
    make(x, 0, 1, false, IN, 0, 1, SET, 3, 1, JUMP, 3, 0);
    for (int i = 0; i < 29; i++) x.tick(100);
    due(2950, x.tick(50), "tick");
    refusedAll(x, STATE, ticks -> () -> x.tick(ticks), "tick at 2950", 51, 99, 100);
    refusedAll(x, ARGUMENT, ticks -> () -> x.tick(ticks), "tick at 2950", outside(1, 100));
    due(2950, x.of(0, RAN), "ticks run");
    due(2999, x.tick(49), "tick");
    refusedAll(x, STATE, ticks -> () -> x.tick(ticks), "tick at 2999", 2, 100);
    due(3000, x.tick(1), "the last tick");
    refusedAll(x, STATE, ticks -> () -> x.tick(ticks), "tick at 3000", 1, 2, 100);
    refusedAll(x, ARGUMENT, ticks -> () -> x.tick(ticks), "tick at 3000", outside(1, 100));
    due(3000, x.time(), "the time");
    due(3000, x.of(0, RAN), "ticks run");
    Hall y = new Hall();
    for (int i = 0; i < 30; i++) due(100 * i + 100, y.tick(100), "to the end with the most");
  }

  static void time() {
    Hall x = new Hall();
    due(0, x.time(), "at first");
    x.tick(1);
    due(1, x.time(), "behind a tick");
    x.tick(100);
    due(101, x.time(), "behind 100 more");
    make(x, LOOP);
    x.snapshot(0);
    x.tick(5);
    x.restore(0, 0);
    due(106, x.time(), "the time is not taken back");
    x.fail(0);
    x.fail(1);
    x.tick(1);
    due(107, x.time(), "where both have failed");
  }
}
