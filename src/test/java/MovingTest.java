import java.util.List;

/** The sentences of "Moving, snapshots", and of the promises 10 to 14 and 30, that name an edge, each with a test of its own. */
public final class MovingTest extends Checks {
  private static final int[] EIGHT = {0, 4, 8, 12, 16, 20, 24, 28};

  public static void main(String[] args) {
    sentence("To begin to move a guest to the other host, which has not failed, all of its pages that are not bare are to be sent.", MovingTest::begins);
    sentence("A round sends so many of these, the lowest first, at most.", MovingTest::rounds);
    sentence("`pages`: 1 to 8: how many are sent at most", MovingTest::roundSizes);
    sentence("A page that is written, or given back, is to be sent once more, by then.", MovingTest::sentOnceMore);
    sentence("To end the move, all that are still to be sent are sent, and the guest is on the other host", MovingTest::lands);
    sentence("pages that were held by frames, or swapped, there become swapped here, with the words that they have; bare ones stay bare", MovingTest::pagesThere);
    sentence("The frames of the old host that hold nothing more are free.", MovingTest::framesLeft);
    sentence("Each page that is sent counts.", MovingTest::sentCounts);
    sentence("the guest is on the other host then, or, if that is not wanted, stays, and the move is over", MovingTest::notWanted);
    sentence("Throws `IllegalStateException` if it is being moved, is DEAD, or the other host has failed", MovingTest::moveRefused);
    sentence("9 how many pages are to be sent, NONE if it is not being moved, 10 how many were sent so far", MovingTest::toSend);
    sentence("The state of a guest is all that is told under Guests but its program, weight, scale and pausing", MovingTest::stateOfGuest);
    sentence("and its words, what it has said, its inputs", MovingTest::wordsAndInputs);
    sentence("its timer as how many ticks are left", MovingTest::timerLeft);
    sentence("pending interrupts, and its clock", MovingTest::pending);
    sentence("A snapshot keeps the state of a guest.", MovingTest::kept);
    sentence("It stores the pages that are not as in the snapshot of that guest that was made or restored last", MovingTest::storesChanges);
    sentence("or, if there was none, those that are not all 0", MovingTest::storesFirst);
    sentence("pages that are all 0 in it are bare, others swapped", MovingTest::restoredPages);
    sentence("its shift is such that the clock is what it was", MovingTest::restoredClock);
    sentence("it stays on its host; a move that was begun is over", MovingTest::staysOnItsHost);
    sentence("inputs that came since are gone", MovingTest::inputsSince);
    sentence("what it says from then on goes out behind what went out", MovingTest::saysBehind);
    sentence("Throws `IllegalStateException` if it is DEAD, or there are 10 snapshots", MovingTest::tenSnapshots);
    sentence("Restores a guest, which may be DEAD.", MovingTest::restoresDead);
    sentence("Throws `IllegalStateException` if the snapshot is of another guest, the guest is followed, or its host has failed", MovingTest::restoreRefused);
    sentence("Throws `IllegalStateException` if it has 24, or the guest has been run, or restored", MovingTest::noMoreInstructions);
    report();
  }

  private static Hall workers(int... hosts) {
    Hall x = new Hall();
    for (int host : hosts) worker(x, host, false, 0);
    return x;
  }

  private static void moveOver(Hall x, int guest) {
    x.move(guest);
    x.land(guest, true);
  }

  static void begins() {
    Hall x = workers(0, 1);
    due(0, x.move(0), "without pages");
    due(0, x.of(0, TO_SEND), "to be sent");
    x.land(0, false);
    write(x, 0, 5, 28);
    due(1, x.move(0), "with the page 7");
    x.land(0, false);
    read(x, 0, 4);
    due(2, x.move(0), "with one that was only read");
    x.land(0, false);
    write(x, 0, 5, 0);
    due(3, x.move(0), "with the page 0");
    x.land(0, false);
    giveBack(x, 0);
    due(2, x.move(0), "with one given back");
    x.land(0, false);
    write(x, 0, 5, EIGHT);
    due(8, x.move(0), "with all");
    due(8, x.land(0, true), "land");
    due(8, x.move(0), "with all swapped");
    x.land(0, false);
    write(x, 1, 5, 0);
    due(1, x.move(1), "from the host 1");
    due(1, x.land(1, true), "land");
    due(0, x.of(1, HOST), "on the host 0");
  }

  static void rounds() {
    Hall x = workers(0);
    write(x, 0, 5, 4, 8, 20, 28);
    due(4, x.move(0), "move");
    // Which of them were sent is seen by which are to be sent once more.
    due(2, x.round(0, 2), "round");
    write(x, 0, 6, 20, 28);
    due(2, x.of(0, TO_SEND), "the higher ones are to be sent still");
    write(x, 0, 6, 8);
    due(3, x.of(0, TO_SEND), "the page 2 once more");
    write(x, 0, 6, 4);
    due(4, x.of(0, TO_SEND), "the page 1 once more");
    due(3, x.round(0, 1), "the lowest");
    write(x, 0, 6, 8, 20, 28);
    due(3, x.of(0, TO_SEND), "the others are to be sent still");
    due(0, x.round(0, 8), "more than there are");
    due(6, x.of(0, SENT), "sent");
    due(0, x.round(0, 1), "where none is left");
    due(6, x.of(0, SENT), "sent");
    write(x, 0, 6, 0);
    due(1, x.of(0, TO_SEND), "one that was bare");
    due(0, x.round(0, 1), "and is sent");
  }

  static void roundSizes() {
    for (int pages = 1; pages <= 8; pages++) {
      Hall x = workers(0);
      write(x, 0, 5, EIGHT);
      x.move(0);
      due(8 - pages, x.round(0, pages), "a round of " + pages);
      due(pages, x.of(0, SENT), "sent");
      due(Math.max(0, 8 - 2 * pages), x.round(0, pages), "another one");
      due(Math.min(8, 2 * pages), x.of(0, SENT), "sent");
    }
    Hall x = workers(0, 0);
    write(x, 0, 5, EIGHT);
    refusedAll(x, STATE, pages -> () -> x.round(0, pages), "round of one that is not being moved", 1, 8);
    refusedAll(x, ARGUMENT, pages -> () -> x.round(0, pages), "round of one that is not being moved", outside(1, 8));
    x.move(0);
    refusedAll(x, ARGUMENT, pages -> () -> x.round(0, pages), "round", outside(1, 8));
    refusedAll(x, BOUNDS, guest -> () -> x.round(guest, 0), "round of no guest", outside(0, 1));
    refused(x, STATE, () -> x.round(1, 1), "round of another guest");
  }

  static void sentOnceMore() {
    Hall x = workers(0);
    write(x, 0, 5, EIGHT);
    x.move(0);
    write(x, 0, 5, 4);
    due(8, x.of(0, TO_SEND), "one that is to be sent still is not counted twice");
    x.round(0, 8);
    read(x, 0, 0, 4, 31);
    due(0, x.of(0, TO_SEND), "those that are read");
    write(x, 0, 5, 4);
    due(1, x.of(0, TO_SEND), "one that is written, though with the same number");
    write(x, 0, 6, 5, 6, 7);
    due(1, x.of(0, TO_SEND), "the same one");
    write(x, 0, 6, 28);
    due(2, x.of(0, TO_SEND), "the page 7");
    giveBack(x, 0);
    due(3, x.of(0, TO_SEND), "one that is given back");
    due(3, x.land(0, true), "land");
    due(11, x.of(0, SENT), "sent");
    pages(x, 0, "BSSSSSSS", "there");
    // A page that was bare is to be sent when it is written or given back, not when it is read; a fault sends none.
    Hall y = workers(0);
    due(0, y.move(0), "move");
    read(y, 0, 8);
    due(0, y.of(0, TO_SEND), "one that is read");
    write(y, 0, 0, 12);
    due(1, y.of(0, TO_SEND), "one to which 0 is put");
    giveBack(y, 0);
    due(2, y.of(0, TO_SEND), "a bare one that is given back");
    write(y, 0, 0, 32);
    due(DEAD, y.of(0, HOW), "a fault");
    due(2, y.of(0, TO_SEND), "behind a fault");
    due(2, y.land(0, true), "land");
    due(DEAD, y.of(0, HOW), "there");
    // What it writes once the move is over does not count.
    Hall z = workers(0);
    z.move(0);
    z.land(0, false);
    write(z, 0, 5, 0);
    due(-1, z.of(0, TO_SEND), "without a move");
    due(1, z.move(0), "with the next move");
  }

  static void lands() {
    Hall x = workers(0, 1);
    write(x, 0, 5, EIGHT);
    x.move(0);
    x.round(0, 3);
    due(5, x.land(0, true), "land");
    due(1, x.of(0, HOST), "its host");
    due(8, x.of(0, SENT), "sent");
    due(-1, x.of(0, TO_SEND), "to be sent");
    refused(x, STATE, () -> x.land(0, true), "land again");
    x.move(0);
    x.round(0, 8);
    due(0, x.land(0, true), "land where all were sent");
    due(0, x.of(0, HOST), "back again");
    x.move(1);
    due(0, x.land(1, true), "land of one without pages");
    due(0, x.of(1, HOST), "its host");
    // Those that are WAITING, STOPPED, paused or DEAD meanwhile land as well.
    Hall y = new Hall();
    make(y, WAIT, 0, 0);
    make(y, STOP, 0, 0);
    make(y, SET, 0, 99, LOAD, 0, 0);
    for (int guest = 0; guest < 3; guest++) y.move(guest);
    y.tick(4);
    int[] how = {WAITING, STOPPED, DEAD};
    for (int guest = 0; guest < 3; guest++) {
      due(0, y.land(guest, true), "land");
      due(1, y.of(guest, HOST), "its host");
      due(how[guest], y.of(guest, HOW), "how");
    }
    refusedAll(y, BOUNDS, guest -> () -> y.land(guest, true), "land", outside(0, 2));
    refusedAll(y, STATE, guest -> () -> y.land(guest, true), "land of one that is not being moved", 0, 1, 2);
    refusedAll(y, STATE, guest -> () -> y.land(guest, false), "land of one that is not being moved", 0, 1, 2);
  }

  static void pagesThere() {
    Hall x = workers(0, 0, 0);
    write(x, 0, 5, 0);
    read(x, 0, 4);
    write(x, 1, 6, EIGHT);
    write(x, 2, 7, 0, 4, 8, 12, 16, 20, 24);
    pages(x, 0, "SHBBBBBB", "ahead of the move");
    read(x, 0, 4);
    write(x, 0, 8, 31);
    pages(x, 0, "SHBBBBBH", "ahead of the move");
    moveOver(x, 0);
    pages(x, 0, "SSBBBBBS", "there");
    frames(x, 0, "there", -1, -1, -1, -1, -1, -1, -1, -1);
    due(5, x.word(0, 0, 0), "a word");
    due(8, x.word(0, 7, 3), "a word");
    read(x, 0, 31, 4, 8);
    pages(x, 0, "SHHBBBBH", "there, when they are read");
    due(0, x.frameOf(0, 7), "the frame there");
    exits(x, 0, 4, 2, 0);
    moveOver(x, 0);
    pages(x, 0, "SSSBBBBS", "back again");
    due(0, x.used(1), "used there");
  }

  static void framesLeft() {
    Hall x = workers(0, 0);
    write(x, 0, 5, 0, 4, 8);
    write(x, 1, 5, 0);
    write(x, 0, 6, 8);
    x.share(0);
    due(2, x.used(0), "used");
    moveOver(x, 0);
    due(1, x.used(0), "used, as the other holds it");
    due(0, x.frameOf(1, 0), "its frame");
    due(0, x.used(1), "used there");
    write(x, 1, 7, 0);
    exits(x, 1, 1, 0, 0);
    moveOver(x, 1);
    due(0, x.used(0), "used, when both are gone");
  }

  static void sentCounts() {
    Hall x = workers(0);
    due(0, x.of(0, SENT), "at first");
    write(x, 0, 5, 0, 4, 8);
    x.move(0);
    due(0, x.of(0, SENT), "when the move begins");
    x.round(0, 1);
    due(1, x.of(0, SENT), "behind a round");
    write(x, 0, 5, 0);
    x.round(0, 1);
    due(2, x.of(0, SENT), "when it is sent once more");
    due(2, x.land(0, true), "land");
    due(4, x.of(0, SENT), "behind it");
    x.move(0);
    x.round(0, 2);
    due(0, x.land(0, false), "land, not wanted");
    due(6, x.of(0, SENT), "what was sent counts, though it stays");
    x.move(0);
    due(3, x.land(0, true), "land: all are sent again");
    due(9, x.of(0, SENT), "sent so far");
    x.snapshot(0);
    x.restore(0, 0);
    x.fail(0);
    due(9, x.of(0, SENT), "sent so far");
  }

  static void notWanted() {
    Hall x = workers(0);
    write(x, 0, 5, 0, 4);
    x.move(0);
    x.round(0, 1);
    due(0, x.land(0, false), "land");
    due(0, x.of(0, HOST), "its host");
    due(-1, x.of(0, TO_SEND), "to be sent");
    pages(x, 0, "HHBBBBBB", "that stay");
    frames(x, 0, "that stay", 0, 1);
    refused(x, STATE, () -> x.land(0, false), "land again");
    refused(x, STATE, () -> x.round(0, 1), "round");
    due(2, x.move(0), "move: from the beginning");
  }

  static void moveRefused() {
    Hall x = workers(0, 1, 0);
    write(x, 2, 5, 32);
    due(DEAD, x.of(2, HOW), "the third");
    refused(x, STATE, () -> x.move(2), "move of one that is DEAD");
    x.move(0);
    refused(x, STATE, () -> x.move(0), "move of one that is being moved");
    x.land(0, false);
    x.move(0);
    x.fail(1);
    due(-1, x.of(0, TO_SEND), "when the other host fails");
    refused(x, STATE, () -> x.move(0), "move to a host that failed");
    refused(x, STATE, () -> x.move(1), "move of one that is DEAD by that");
    x.mend(1);
    due(0, x.move(0), "move to one that was mended");
    refusedAll(x, BOUNDS, guest -> () -> x.move(guest), "move", outside(0, 2));
    // One that is DEAD may be moved once it is restored; one that waits, stopped, or is paused may be, too.
    Hall y = new Hall();
    make(y, WAIT, 0, 0);
    make(y, STOP, 0, 0);
    make(y, SET, 0, 99, LOAD, 0, 0);
    y.snapshot(2);
    y.tick(5);
    due(DEAD, y.of(2, HOW), "how");
    y.restore(2, 0);
    for (int guest = 0; guest < 3; guest++) due(0, y.move(guest), "move");
  }

  static void toSend() {
    Hall x = workers(0);
    due(-1, x.of(0, TO_SEND), "at first");
    x.move(0);
    due(0, x.of(0, TO_SEND), "none to be sent, while it is being moved");
    x.land(0, true);
    due(-1, x.of(0, TO_SEND), "behind land");
    refusedAll(x, ARGUMENT, what -> () -> x.of(0, what), "of", outside(0, 10));
    refusedAll(x, BOUNDS, guest -> () -> x.of(guest, 11), "of no guest", outside(0, 0));
  }

  /** In its handler, at the instruction 7: all that stands under Guests is other than at first. */
  private static Hall inHandler() {
    Hall x = new Hall();
    make(x, 0, 2, false, HANDLE, 0, 5, SET, 0, 32, MAP, 3, 6, LOAD, 1, 0, STOP, 0, 0,
        SET, 2, 7, SET, 1, 12, STORE, 2, 1, MAP, 3, 8, HANDLE, 0, 4, SET, 0, 31, BACK, 0, 0);
    x.tick(6);
    return x;
  }

  private static void dueInHandler(Hall x, String when) {
    dueOf(x, 0, when, List.of(of(HOW, READY), of(NEXT, 7), of(CAUSE, 1), of(MASKED, 1)));
    int[] registers = {32, 12, 7, 0};
    for (int i = 0; i < 4; i++) due(registers[i], x.register(0, i), "the register " + i + " " + when);
  }

  static void stateOfGuest() {
    Hall x = inHandler();
    dueInHandler(x, "ahead of it");
    x.snapshot(0);
    x.tick(1);
    due(7, x.word(0, 6, 0), "by the table of then");
    x.tick(3);
    dueOf(x, 0, "when it is another", List.of(of(NEXT, 11), of(MASKED, 1)));
    x.tick(1);
    dueOf(x, 0, "when it is another", List.of(of(NEXT, 3), of(MASKED, 0)));
    x.scale(0, 3);
    x.pause(0, true);
    x.restore(0, 0);
    dueInHandler(x, "restored");
    due(0, x.word(0, 6, 0), "its word, restored");
    yes(x.pause(0, false), "paused as it is now");
    x.tick(1);
    due(7, x.word(0, 6, 0), "by the table of then");
    due(9, x.of(0, CLOCK), "the clock of then, with the scale of now");
    due(3, x.scale(0, 1), "the scale of now");
    x.tick(4);
    due(3, x.of(0, NEXT), "the saved number of then");
    yes(x.isAsPlain(0), "isAsPlain");
    // The handler of then: none at first, and another one later.
    Hall y = new Hall();
    make(y, SET, 0, 32, HANDLE, 0, 3, LOAD, 1, 0, STOP, 0, 0);
    y.tick(1);
    y.snapshot(0);
    y.tick(1);
    y.snapshot(0);
    y.restore(0, 0);
    y.send(0);
    y.pause(0, true);
    y.restore(0, 1);
    y.pause(0, false);
    y.tick(1);
    dueOf(y, 0, "with a handler", List.of(of(HOW, READY), of(NEXT, 3), of(CAUSE, 1)));
    y.restore(0, 0);
    y.send(0);
    y.tick(1);
    due(0, y.exits(0, LET), "without a handler");
    due(2, y.of(0, NEXT), "without a handler");
    waitingAndStopped();
  }

  static void waitingAndStopped() {
    Hall x = new Hall();
    make(x, WAIT, 0, 0, STOP, 0, 0, ADD, 0, 0);
    x.tick(1);
    x.snapshot(0);
    x.send(0);
    x.tick(1);
    x.snapshot(0);
    x.restore(0, 0);
    dueOf(x, 0, "restored as it waited", List.of(of(HOW, WAITING), of(NEXT, 1)));
    x.tick(5);
    due(WAITING, x.of(0, HOW), "it waits");
    no(x.send(0), "none is pending");
    x.restore(0, 1);
    dueOf(x, 0, "restored as it was stopped", List.of(of(HOW, STOPPED), of(NEXT, 2)));
    refused(x, STATE, () -> x.send(0) ? 1 : 0, "send");
    x.restore(0, 0);
    due(WAITING, x.of(0, HOW), "restored as it waited, once more");
    due(2, x.of(0, RAN), "ticks run are not taken back");
    due(0, x.of(0, STOLEN), "ticks stolen");
    due(2, x.exits(0, RESTS), "exits are not taken back");
  }

  static void wordsAndInputs() {
    Hall x = new Hall();
    make(x, putAll(5, 8, of(IN, 2, 0, OUT, 2, 0, SET, 3, 1, JUMP, 3, 17)));
    for (int i = 1; i <= 20; i++) x.input(0, 100 + i);
    x.tick(17);
    x.snapshot(0);
    x.tick(80);
    due(0, x.of(0, INPUTS), "all are taken");
    due(20, x.out(0), "out");
    x.snapshot(0);
    x.input(0, 7);
    due(8, x.restore(0, 0), "restore");
    due(20, x.of(0, INPUTS), "all are there again");
    refused(x, STATE, () -> x.input(0, 1), "a 21st input");
    for (int page = 0; page < 8; page++) due(5, x.word(0, page, 0), "a word");
    x.tick(80);
    due(40, x.out(0), "out");
    for (int i = 0; i < 40; i++) due(101 + i % 20, x.outAt(0, i), "what is said");
    x.restore(0, 1);
    due(0, x.of(0, INPUTS), "none is there");
    x.input(0, 8);
    x.tick(4);
    due(8, x.outAt(0, 40), "the input of now");
    yes(x.isAsPlain(0), "isAsPlain");
  }

  /** A guest whose timer goes off so many ticks behind its third one; it is snapshot and paused so many ticks later. */
  private static Hall timer(int ticks, int later) {
    Hall x = new Hall();
    make(x, HANDLE, 0, 5, SET, 0, ticks, OUT, 0, 1, SET, 3, 1, JUMP, 3, 4, IN, 2, 2, OUT, 2, 0, BACK, 0, 0);
    x.tick(3);
    if (later > 0) x.tick(later);
    x.snapshot(0);
    return x;
  }

  static void timerLeft() {
    int[][] rows = {{1, 0}, {2, 1}, {9, 0}, {9, 4}, {9, 8}};
    for (int[] row : rows) {
      Hall x = timer(row[0], row[1]);
      for (int times = 1; times <= 3; times++) {
        x.tick(40);
        int before = x.exits(0, LET);
        x.restore(0, 0);
        for (int left = row[0] - row[1]; left > 1; left--) x.tick(1);
        due(before, x.exits(0, LET), "ahead of it");
        x.tick(1);
        due(before + 1, x.exits(0, LET), "when the ticks that were left are gone");
      }
      yes(x.isAsPlain(0), "isAsPlain");
    }
    // One that went off already, or was never set, does not go off again; one that was set since is not set.
    Hall x = timer(2, 9);
    x.restore(0, 0);
    x.tick(40);
    due(1, x.exits(0, LET), "one that went off already");
    Hall y = new Hall();
    make(y, HANDLE, 0, 4, SET, 0, 5, OUT, 0, 1, WAIT, 0, 0, BACK, 0, 0);
    y.tick(2);
    y.snapshot(0);
    y.tick(2);
    y.restore(0, 0);
    y.pause(0, true);
    y.tick(20);
    y.pause(0, false);
    y.tick(1);
    due(0, y.exits(0, LET), "one that was set since");
    // The same ticks are left on the other host, and while it is paused they go by.
    Hall z = timer(9, 4);
    moveOver(z, 0);
    z.tick(20);
    z.restore(0, 0);
    z.pause(0, true);
    z.tick(4);
    z.pause(0, false);
    int before = z.exits(0, LET);
    z.tick(1);
    due(before + 1, z.exits(0, LET), "in the fifth tick");
  }

  static void pending() {
    Hall x = new Hall();
    make(x, MASK, 0, 1, HANDLE, 0, 7, SET, 0, 1, OUT, 0, 1, ADD, 1, 1, MASK, 0, 0, STOP, 0, 0, IN, 2, 2, OUT, 2, 0, BACK, 0, 0);
    x.snapshot(0);
    x.tick(5);
    x.snapshot(0);
    x.send(0);
    x.snapshot(0);
    x.restore(0, 0);
    no(x.send(0), "none was pending");
    x.restore(0, 1);
    no(x.send(0), "none that was sent was pending");
    x.restore(0, 1);
    x.tick(30);
    same("[2]", said(x, 0), "the timer's was pending");
    x.restore(0, 2);
    yes(x.send(0), "one that was sent was pending");
    x.tick(30);
    same("[2, 2, 3]", said(x, 0), "both were pending");
    yes(x.isAsPlain(0), "isAsPlain");
    // Without the timer's: only the one that was sent.
    Hall y = new Hall();
    make(y, MASK, 0, 1, HANDLE, 0, 4, MASK, 0, 0, STOP, 0, 0, IN, 2, 2, OUT, 2, 0, BACK, 0, 0);
    y.send(0);
    y.tick(1);
    y.snapshot(0);
    y.tick(20);
    y.restore(0, 0);
    y.tick(20);
    same("[3, 3]", said(y, 0), "what is said");
  }

  static void kept() {
    Hall x = workers(0, 0);
    write(x, 0, 5, 0, 5);
    x.snapshot(0);
    for (int i = 0; i < 3; i++) {
      write(x, 0, 6, 0, 8);
      if (i == 1) giveBack(x, 0);
      if (i == 2) moveOver(x, 0);
      due(2, x.restore(0, 0), "restore");
      due(5, x.word(0, 0, 0), "a word");
      due(5, x.word(0, 1, 1), "a word");
      due(0, x.word(0, 2, 0), "a word");
      due(2, x.stored(0), "stored");
    }
    // The words of a page that another shared are kept as well.
    Hall y = workers(0, 0);
    write(y, 0, 5, 0);
    write(y, 1, 5, 0);
    y.share(0);
    y.snapshot(0);
    write(y, 1, 6, 0);
    write(y, 0, 7, 0);
    y.restore(0, 0);
    due(5, y.word(0, 0, 0), "its word");
    due(6, y.word(1, 0, 0), "the other's word");
  }

  static void storesChanges() {
    Hall x = workers(0, 0);
    write(x, 0, 5, 0, 4, 8);
    write(x, 1, 9, EIGHT);
    x.snapshot(0);
    due(3, x.stored(0), "the first");
    x.snapshot(0);
    due(0, x.stored(1), "without a change");
    write(x, 0, 5, 0, 4);
    x.snapshot(0);
    due(0, x.stored(2), "with the same numbers put once more");
    write(x, 0, 6, 7);
    x.snapshot(0);
    due(1, x.stored(3), "with another word in the last place");
    write(x, 0, 0, 8);
    write(x, 0, 1, 31);
    x.snapshot(0);
    due(2, x.stored(4), "with one that is 0 again, and the page 7");
    giveBack(x, 0);
    x.snapshot(1);
    due(8, x.stored(5), "the first of another guest");
    x.snapshot(0);
    due(1, x.stored(6), "with one given back");
    // The one restored last counts, not the one made last.
    x.restore(0, 0);
    x.snapshot(0);
    due(0, x.stored(7), "as the first");
    x.restore(0, 4);
    write(x, 0, 9, 12);
    x.snapshot(0);
    due(1, x.stored(8), "and one page more than the fifth");
    moveOver(x, 0);
    read(x, 0, 16);
    x.snapshot(0);
    due(0, x.stored(9), "on the other host, with the same words");
    int[] due = {3, 0, 0, 1, 2, 8, 1, 0, 1, 0};
    for (int i = 0; i < 10; i++) due(due[i], x.stored(i), "stays what it was");
    refusedAll(x, BOUNDS, snapshot -> () -> x.stored(snapshot), "stored", outside(0, 9));
  }

  static void storesFirst() {
    Hall x = workers(0, 0, 0);
    x.snapshot(0);
    due(0, x.stored(0), "of one without pages");
    read(x, 1, 0, 4);
    write(x, 1, 0, 8);
    write(x, 1, 1, 31);
    x.snapshot(1);
    due(1, x.stored(1), "of one with pages of 0");
    write(x, 2, 5, EIGHT);
    x.snapshot(2);
    due(8, x.stored(2), "of one with all pages");
  }

  static void restoredPages() {
    Hall x = workers(0, 0);
    x.snapshot(0);
    read(x, 0, 0);
    write(x, 0, 0, 4);
    write(x, 0, 5, 11, 31);
    pages(x, 0, "HHHBBBBH", "ahead of the snapshot");
    x.snapshot(0);
    write(x, 0, 5, EIGHT);
    due(8, x.used(0), "used");
    x.snapshot(0);
    due(8, x.restore(0, 2), "restore of the third");
    pages(x, 0, "SSSSSSSS", "where none was 0");
    due(0, x.used(0), "used");
    due(2, x.restore(0, 1), "restore of the second");
    pages(x, 0, "BBSBBBBS", "where some were 0");
    due(0, x.restore(0, 0), "restore of the first");
    pages(x, 0, "BBBBBBBB", "where all were 0");
    x.restore(0, 2);
    read(x, 0, 0);
    exits(x, 0, 8, 1, 0);
    frames(x, 0, "brought back", 0, -1);
  }

  static void restoredClock() {
    Hall x = workers(0);
    x.snapshot(0);
    int first = x.of(0, CLOCK);
    x.tick(10);
    x.scale(0, 3);
    x.snapshot(0);
    int second = x.of(0, CLOCK);
    due(first + 10, second, "the clock");
    x.tick(100);
    due(second + 300, x.of(0, CLOCK), "the clock");
    x.restore(0, 0);
    due(first, x.of(0, CLOCK), "the clock of the first");
    x.tick(1);
    due(first + 3, x.of(0, CLOCK), "with the scale of now");
    due(3, x.scale(0, 2), "the scale of now");
    x.restore(0, 1);
    due(second, x.of(0, CLOCK), "the clock of the second");
    x.tick(5);
    due(second + 10, x.of(0, CLOCK), "with the scale of now");
    x.scale(0, 1);
    due(second + 10, x.of(0, CLOCK), "it does not jump");
  }

  static void staysOnItsHost() {
    Hall x = workers(0);
    write(x, 0, 5, 0);
    x.snapshot(0);
    moveOver(x, 0);
    read(x, 0, 0);
    x.restore(0, 0);
    due(1, x.of(0, HOST), "its host");
    due(0, x.used(1), "used there");
    x.move(0);
    due(1, x.of(0, TO_SEND), "to be sent");
    x.restore(0, 0);
    due(-1, x.of(0, TO_SEND), "the move is over");
    refused(x, STATE, () -> x.land(0, true), "land");
    refused(x, STATE, () -> x.round(0, 1), "round");
    // A snapshot that is made while it is being moved does not end the move, nor begin it once more.
    x.move(0);
    x.snapshot(0);
    due(1, x.of(0, TO_SEND), "to be sent behind a snapshot");
    x.land(0, true);
    x.restore(0, 1);
    due(-1, x.of(0, TO_SEND), "to be sent");
    due(0, x.of(0, HOST), "its host");
  }

  static void inputsSince() {
    Hall x = new Hall();
    make(x, IN, 0, 0, IN, 1, 0, IN, 2, 0);
    x.input(0, 7);
    x.snapshot(0);
    x.input(0, 8);
    x.tick(1);
    due(1, x.of(0, INPUTS), "inputs");
    x.restore(0, 0);
    due(1, x.of(0, INPUTS), "those of then");
    x.tick(3);
    int[] due = {7, 0, 0};
    for (int i = 0; i < 3; i++) due(due[i], x.register(0, i), "what it takes");
    yes(x.isAsPlain(0), "isAsPlain");
  }

  static void saysBehind() {
    Hall x = new Hall();
    make(x, SET, 1, 1, ADD, 0, 1, OUT, 0, 0, JUMP, 1, 1);
    x.tick(7);
    x.snapshot(0);
    same("[1, 2]", said(x, 0), "out");
    x.tick(6);
    same("[1, 2, 3, 4]", said(x, 0), "out");
    x.restore(0, 0);
    same("[1, 2, 3, 4]", said(x, 0), "out, not taken back");
    x.tick(3);
    same("[1, 2, 3, 4, 3]", said(x, 0), "out");
    yes(x.isAsPlain(0), "isAsPlain");
  }

  static void tenSnapshots() {
    Hall x = workers(0, 0, 0);
    write(x, 2, 1, 32);
    due(DEAD, x.of(2, HOW), "how");
    refused(x, STATE, () -> x.snapshot(2), "snapshot of one that is DEAD");
    for (int i = 0; i < 10; i++) {
      int number = i;
      refused(x, BOUNDS, () -> x.stored(number), "stored ahead of it");
      due(i, x.snapshot(i % 2), "snapshot");
      due(0, x.stored(i), "stored");
    }
    refusedAll(x, STATE, guest -> () -> x.snapshot(guest), "an eleventh snapshot", 0, 1, 2);
    refusedAll(x, BOUNDS, guest -> () -> x.snapshot(guest), "snapshot", outside(0, 2));
    x.restore(0, 8);
    refused(x, STATE, () -> x.snapshot(0), "an eleventh snapshot, behind restore");
    // Those that are STOPPED, WAITING, paused, followed or being moved may be kept.
    Hall y = new Hall();
    make(y, STOP, 0, 0);
    make(y, WAIT, 0, 0);
    y.tick(2);
    y.follow(0, true);
    y.move(1);
    for (int i = 0; i < 4; i++) due(i, y.snapshot(i % 2), "snapshot");
    // One that is DEAD goes on with its step: its last snapshot is the one that was made, not the one that was refused.
    Hall z = workers(0);
    write(z, 0, 5, 0, 4);
    due(0, z.snapshot(0), "snapshot");
    z.follow(0, true);
    write(z, 0, 5, 32);
    due(DEAD, z.of(0, HOW), "how");
    refused(z, STATE, () -> z.snapshot(0), "snapshot of one that is DEAD, and followed");
    z.fail(0);
    due(1, z.snapshot(0), "snapshot of one that goes on");
    due(0, z.stored(1), "stored, with the same words");
  }

  static void restoresDead() {
    Hall x = new Hall();
    make(x, SET, 0, 31, LOAD, 1, 0, SET, 0, 32, LOAD, 1, 0);
    x.tick(2);
    x.snapshot(0);
    x.tick(2);
    due(DEAD, x.of(0, HOW), "by a fault");
    x.restore(0, 0);
    dueOf(x, 0, "restored", List.of(of(HOW, READY), of(NEXT, 2)));
    x.tick(2);
    due(DEAD, x.of(0, HOW), "by the same fault");
    yes(x.isAsPlain(0), "isAsPlain");
    x.restore(0, 0);
    x.fail(0);
    due(DEAD, x.of(0, HOW), "by the failing of its host");
    yes(x.isAsPlain(0), "isAsPlain");
    refused(x, STATE, () -> x.restore(0, 0), "restore on a host that failed");
    x.mend(0);
    due(DEAD, x.of(0, HOW), "on the host that was mended");
    due(0, x.restore(0, 0), "restore");
    dueOf(x, 0, "restored", List.of(of(HOW, READY), of(NEXT, 2), of(HOST, 0)));
    yes(x.isAsPlain(0), "isAsPlain");
    x.tick(2);
    due(DEAD, x.of(0, HOW), "by the same fault");
    yes(x.isAsPlain(0), "isAsPlain");
  }

  static void restoreRefused() {
    Hall x = workers(0, 0);
    x.snapshot(0);
    x.snapshot(1);
    refused(x, STATE, () -> x.restore(0, 1), "restore of another's");
    refused(x, STATE, () -> x.restore(1, 0), "restore of another's");
    refusedAll(x, BOUNDS, snapshot -> () -> x.restore(0, snapshot), "restore", outside(0, 1));
    refusedAll(x, BOUNDS, guest -> () -> x.restore(guest, 0), "restore of no guest", outside(0, 1));
    x.follow(0, true);
    refused(x, STATE, () -> x.restore(0, 0), "restore of one that is followed");
    refusedAll(x, BOUNDS, snapshot -> () -> x.restore(0, snapshot), "restore of one that is followed", outside(0, 1));
    due(0, x.restore(1, 1), "restore of one that is not");
    x.follow(0, false);
    due(0, x.restore(0, 0), "restore of one that is followed no more");
    x.fail(1);
    due(0, x.restore(0, 0), "restore where the other host has failed");
    x.fail(0);
    refused(x, STATE, () -> x.restore(0, 0), "restore where its host has failed");
    refused(x, BOUNDS, () -> x.restore(0, 2), "restore of no snapshot where its host has failed");
  }

  static void noMoreInstructions() {
    Hall x = new Hall();
    for (int guest = 0; guest < 3; guest++) make(x, ADD, 0, 0);
    due(1, x.instruct(0, ADD, 0, 0), "at first");
    x.snapshot(1);
    x.pause(2, true);
    x.tick(1);
    refused(x, STATE, () -> x.instruct(0, ADD, 0, 0), "instruct of one that has been run");
    due(1, x.instruct(1, ADD, 0, 0), "instruct of one that waited for its turn, and was snapshot");
    due(1, x.instruct(2, ADD, 0, 0), "instruct of one that is paused");
    x.restore(1, 0);
    refused(x, STATE, () -> x.instruct(1, ADD, 0, 0), "instruct of one that has been restored");
    refused(x, ARGUMENT, () -> x.instruct(1, ADD, 4, 0), "instruct of one that has been restored, with a wrong register");
    moveOver(x, 2);
    due(2, x.instruct(2, ADD, 0, 0), "instruct of one that was moved");
    x.fail(1);
    due(3, x.instruct(2, ADD, 0, 0), "instruct of one that is DEAD, but was not run");
  }
}
